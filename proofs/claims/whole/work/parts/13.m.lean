def mm_Store_follow : MzT := (⟨"ParcelLine$Store", "follow", "(LParcelLine$Path;II)I"⟩, prog_12_method_8_code, 6, (Option.some Jvm.ClassFile.FieldType.int))
theorem cs_Store_follow {mm : MzT} : mzCall mm mm_Store_follow 3 := ⟨wn_Store, wco_Store_follow, by decide +kernel, by decide⟩
theorem d_Store_follow_0 : decode mm_Store_follow.2.1 0 = .ok (.aload_n 1, 1) := by decide +kernel
theorem d_Store_follow_1 : decode mm_Store_follow.2.1 1 = .ok (.getfield 39, 3) := by decide +kernel
theorem d_Store_follow_4 : decode mm_Store_follow.2.1 4 = .ok (.ifCond .eq 7, 3) := by decide +kernel
theorem d_Store_follow_7 : decode mm_Store_follow.2.1 7 = .ok (.iconst 0, 1) := by decide +kernel
theorem d_Store_follow_8 : decode mm_Store_follow.2.1 8 = .ok (.goto 4, 3) := by decide +kernel
theorem d_Store_follow_11 : decode mm_Store_follow.2.1 11 = .ok (.iload_n 2, 1) := by decide +kernel
theorem d_Store_follow_12 : decode mm_Store_follow.2.1 12 = .ok (.istore 4, 2) := by decide +kernel
theorem d_Store_follow_14 : decode mm_Store_follow.2.1 14 = .ok (.iconst 0, 1) := by decide +kernel
theorem d_Store_follow_15 : decode mm_Store_follow.2.1 15 = .ok (.istore 5, 2) := by decide +kernel
theorem d_Store_follow_17 : decode mm_Store_follow.2.1 17 = .ok (.iload 5, 2) := by decide +kernel
theorem d_Store_follow_19 : decode mm_Store_follow.2.1 19 = .ok (.iload_n 3, 1) := by decide +kernel
theorem d_Store_follow_20 : decode mm_Store_follow.2.1 20 = .ok (.if_icmp .ge 67, 3) := by decide +kernel
theorem d_Store_follow_23 : decode mm_Store_follow.2.1 23 = .ok (.iload 5, 2) := by decide +kernel
theorem d_Store_follow_25 : decode mm_Store_follow.2.1 25 = .ok (.aload_n 1, 1) := by decide +kernel
theorem d_Store_follow_26 : decode mm_Store_follow.2.1 26 = .ok (.getfield 45, 3) := by decide +kernel
theorem d_Store_follow_29 : decode mm_Store_follow.2.1 29 = .ok (.if_icmp .ge 58, 3) := by decide +kernel
theorem d_Store_follow_32 : decode mm_Store_follow.2.1 32 = .ok (.aload_n 0, 1) := by decide +kernel
theorem d_Store_follow_33 : decode mm_Store_follow.2.1 33 = .ok (.iload 4, 2) := by decide +kernel
theorem d_Store_follow_35 : decode mm_Store_follow.2.1 35 = .ok (.invokevirtual 48, 3) := by decide +kernel
theorem d_Store_follow_38 : decode mm_Store_follow.2.1 38 = .ok (.ifCond .ne 5, 3) := by decide +kernel
theorem d_Store_follow_41 : decode mm_Store_follow.2.1 41 = .ok (.iconst (-1), 1) := by decide +kernel
theorem d_Store_follow_42 : decode mm_Store_follow.2.1 42 = .ok (.ireturn, 1) := by decide +kernel
theorem d_Store_follow_43 : decode mm_Store_follow.2.1 43 = .ok (.aload_n 1, 1) := by decide +kernel
theorem d_Store_follow_44 : decode mm_Store_follow.2.1 44 = .ok (.getfield 51, 3) := by decide +kernel
theorem d_Store_follow_47 : decode mm_Store_follow.2.1 47 = .ok (.iload 5, 2) := by decide +kernel
theorem d_Store_follow_49 : decode mm_Store_follow.2.1 49 = .ok (.iaload, 1) := by decide +kernel
theorem d_Store_follow_50 : decode mm_Store_follow.2.1 50 = .ok (.ifCond .ne 16, 3) := by decide +kernel
theorem d_Store_follow_53 : decode mm_Store_follow.2.1 53 = .ok (.aload_n 0, 1) := by decide +kernel
theorem d_Store_follow_54 : decode mm_Store_follow.2.1 54 = .ok (.getfield 11, 3) := by decide +kernel
theorem d_Store_follow_57 : decode mm_Store_follow.2.1 57 = .ok (.iload 4, 2) := by decide +kernel
theorem d_Store_follow_59 : decode mm_Store_follow.2.1 59 = .ok (.aaload, 1) := by decide +kernel
theorem d_Store_follow_60 : decode mm_Store_follow.2.1 60 = .ok (.getfield 22, 3) := by decide +kernel
theorem d_Store_follow_63 : decode mm_Store_follow.2.1 63 = .ok (.goto 16, 3) := by decide +kernel
theorem d_Store_follow_66 : decode mm_Store_follow.2.1 66 = .ok (.aload_n 0, 1) := by decide +kernel
theorem d_Store_follow_67 : decode mm_Store_follow.2.1 67 = .ok (.iload 4, 2) := by decide +kernel
theorem d_Store_follow_69 : decode mm_Store_follow.2.1 69 = .ok (.aload_n 1, 1) := by decide +kernel
theorem d_Store_follow_70 : decode mm_Store_follow.2.1 70 = .ok (.getfield 51, 3) := by decide +kernel
theorem d_Store_follow_73 : decode mm_Store_follow.2.1 73 = .ok (.iload 5, 2) := by decide +kernel
theorem d_Store_follow_75 : decode mm_Store_follow.2.1 75 = .ok (.iaload, 1) := by decide +kernel
theorem d_Store_follow_76 : decode mm_Store_follow.2.1 76 = .ok (.invokevirtual 54, 3) := by decide +kernel
theorem d_Store_follow_79 : decode mm_Store_follow.2.1 79 = .ok (.istore 4, 2) := by decide +kernel
theorem d_Store_follow_81 : decode mm_Store_follow.2.1 81 = .ok (.iinc 5 1, 3) := by decide +kernel
theorem d_Store_follow_84 : decode mm_Store_follow.2.1 84 = .ok (.goto (-67), 3) := by decide +kernel
theorem d_Store_follow_87 : decode mm_Store_follow.2.1 87 = .ok (.iload 4, 2) := by decide +kernel
theorem d_Store_follow_89 : decode mm_Store_follow.2.1 89 = .ok (.ireturn, 1) := by decide +kernel
def wp_Store_follow_79 (x : Nat) (H17 : Int32 → Int32 → Int32 → MzM → Prop) (K : Int32 → MzM → Prop) (y3 : Int32) (y5 : Int32) (ys0 : Int32) (M : MzM) : Prop := H17 y3 ys0 (y5 + (1 : Int32)) M
def wp_Store_follow_17 (x : Nat)  (K : Int32 → MzM → Prop) : Nat → Int32 → Int32 → Int32 → MzM → Prop
  | 0, _, _, _, _ => False
  | r0 + 1, y3, y4, y5, M => ((y3 ≤ y5 → K y4 M) ∧ (¬ y3 ≤ y5 → (((mz_i M (14, x) 1) ≤ y5 → K y4 M) ∧ (¬ (mz_i M (14, x) 1) ≤ y5 → wp_Store_isDirectory  y4 M (fun v7 M4 => ((¬ v7 = 0 → (∃ j8 : Nat, y5.toInt = (j8 : Int) ∧ j8 < 30 ∧ ((¬ (mz_i M4 (15, x) j8) = 0 → (∃ j12 : Nat, y5.toInt = (j12 : Int) ∧ j12 < 30 ∧ wp_Store_childNamed  y4 (mz_i M4 (15, x) j12) M4 (fun v19 M16 => wp_Store_follow_79 x (wp_Store_follow_17 x  K r0) K y3 y5 v19 M16))) ∧ ((mz_i M4 (15, x) j8) = 0 → (∃ j20 : Nat, y4.toInt = (j20 : Int) ∧ j20 < 16 ∧ wp_Store_follow_79 x (wp_Store_follow_17 x  K r0) K y3 y5 (mz_i M4 (3, j20) 2) M4))))) ∧ (v7 = 0 → K (-1 : Int32) M4)))))))
def wp_Store_follow_12 (x : Nat)  (K : Int32 → MzM → Prop) (y3 : Int32) (ys0 : Int32) (M : MzM) : Prop := (∃ r2 : Nat, wp_Store_follow_17 x  K r2 y3 ys0 (0 : Int32) M)
def wp_Store_follow (x : Nat) (a2 : Int32) (a3 : Int32) (M : MzM) (K : Int32 → MzM → Prop) : Prop := (((mz_i M (14, x) 2) = 0 → wp_Store_follow_12 x  K a3 a2 M) ∧ (¬ (mz_i M (14, x) 2) = 0 → wp_Store_follow_12 x  K a3 (0 : Int32) M))
theorem tm_Store_follow_79 {G : MzG} {B : MzB} {d : Nat} {K : Int32 → MzM → Prop} (hF : mzLive false B) {x : Nat} (hx : x < 2) {H17 : Int32 → Int32 → Int32 → MzM → Prop} (hH17 : ∀ (y3 : Int32) (y4 : Int32) (y5 : Int32) (M : MzM), mzLnk false M → H17 y3 y4 y5 M → MzS G B (d + 2) mm_Store_follow M (0, 0) (mzK1 false B K) 17 [(0, .ref (mz_ad B (1, 0))), (1, .ref (mz_ad B (14, x))), (3, .int y3), (4, .int y4), (5, .int y5)] []) (y3 : Int32) (y5 : Int32) (ys0 : Int32) (M : MzM) (hL : mzLnk false M) (h : wp_Store_follow_79 x H17 K y3 y5 ys0 M) : MzS G B (d + 2) mm_Store_follow M (0, 0) (mzK1 false B K) 79 [(0, .ref (mz_ad B (1, 0))), (1, .ref (mz_ad B (14, x))), (3, .int y3), (5, .int y5)] [.int ys0] := by
  unfold wp_Store_follow_79 at h
  exact (mz_istore d_Store_follow_79 (by decide) (mz_iinc (y5 + (1 : Int32)) d_Store_follow_81 rfl (by decide) rfl (mz_goto 17 d_Store_follow_84 rfl (MzS.loc [(0, .ref (mz_ad B (1, 0))), (1, .ref (mz_ad B (14, x))), (3, .int y3), (4, .int ys0), (5, .int (y5 + (1 : Int32)))] ⟨rfl, rfl, rfl, rfl, rfl, trivial⟩ (hH17 y3 ys0 (y5 + (1 : Int32)) M hL h)))))
theorem tm_Store_follow_17 {G : MzG} {B : MzB} {d : Nat} {K : Int32 → MzM → Prop} (hF : mzLive false B) {x : Nat} (hx : x < 2)   : ∀ (r0 : Nat) (y3 : Int32) (y4 : Int32) (y5 : Int32) (M : MzM), mzLnk false M → wp_Store_follow_17 x  K r0 y3 y4 y5 M → MzS G B (d + 2) mm_Store_follow M (0, 0) (mzK1 false B K) 17 [(0, .ref (mz_ad B (1, 0))), (1, .ref (mz_ad B (14, x))), (3, .int y3), (4, .int y4), (5, .int y5)] [] := by
  intro r0
  induction r0 with
  | zero => intro y3 y4 y5 M hL h; exact False.elim h
  | succ r0 hH17 =>
    intro y3 y4 y5 M hL h
    unfold wp_Store_follow_17 at h
    exact (mz_iload d_Store_follow_17 rfl (mz_iload_n d_Store_follow_19 rfl (mz_icmp_ge 87 d_Store_follow_20 rfl (fun hc27 => (mz_iload d_Store_follow_87 rfl (mz_iret .int d_Store_follow_89 rfl rfl ⟨rfl, hL, _, rfl, (h.1 hc27)⟩))) (fun hc27 => (mz_iload d_Store_follow_23 rfl (mz_aload_n d_Store_follow_25 rfl (mz_getIN (k := 1) cl_7 d_Store_follow_26 (by decide) wf_Store_45 rfl (hF 14 x rfl hx) rfl (mz_icmp_ge 87 d_Store_follow_29 rfl (fun hc26 => (mz_iload d_Store_follow_87 rfl (mz_iret .int d_Store_follow_89 rfl rfl ⟨rfl, hL, _, rfl, ((h.2 hc27).1 hc26)⟩))) (fun hc26 => (mz_aload_n d_Store_follow_32 rfl (mz_iload d_Store_follow_33 rfl (mz_callV (As := [.int y4]) (st := []) (hF 1 0 rfl (by decide)) rfl (mzClOf cl_1) 0 0 d_Store_follow_35 cs_Store_isDirectory wl_Store_48 wi_Store_isDirectory wse_Store_isDirectory (Nat.le_of_ble_eq_true rfl) (Nat.zero_le _) (Nat.zero_le _) (MzC.mono (tm_Store_isDirectory (d := (d + 1)) hF  hL ((h.2 hc27).2 hc26)) (fun r9 B9 M4 hq6 => by obtain ⟨rfl, hL5, v7, rfl, hq6⟩ := hq6; exact ⟨_, rfl, (mz_if_ne 43 d_Store_follow_38 rfl (fun hc25 => (mz_aload_n d_Store_follow_43 rfl (mz_getRN (k := 0) (a := (15, x)) cl_7 d_Store_follow_44 (by decide) wf_Store_51 rfl (hF 14 x rfl hx) rfl (hL5 (14, x) 0 (15, x) rfl rfl hx) (mz_iload d_Store_follow_47 rfl (match (hq6.1 hc25) with | ⟨j8, h9, h10, h11⟩ => mz_iald j8 d_Store_follow_49 (hF 15 x rfl hx) rfl h9 h10 (mz_if_ne 66 d_Store_follow_50 rfl (fun hc24 => (mz_aload_n d_Store_follow_66 rfl (mz_iload d_Store_follow_67 rfl (mz_aload_n d_Store_follow_69 rfl (mz_getRN (k := 0) (a := (15, x)) cl_7 d_Store_follow_70 (by decide) wf_Store_51 rfl (hF 14 x rfl hx) rfl (hL5 (14, x) 0 (15, x) rfl rfl hx) (mz_iload d_Store_follow_73 rfl (match (h11.1 hc24) with | ⟨j12, h13, h14, h15⟩ => mz_iald j12 d_Store_follow_75 (hF 15 x rfl hx) rfl h13 h14 (mz_callV (As := [.int y4, .int (mz_i M4 (15, x) j12)]) (st := []) (hF 1 0 rfl (by decide)) rfl (mzClOf cl_1) 0 0 d_Store_follow_76 cs_Store_childNamed wl_Store_54 wi_Store_childNamed wse_Store_childNamed (Nat.le_of_ble_eq_true rfl) (Nat.zero_le _) (Nat.zero_le _) (MzC.mono (tm_Store_childNamed (d := d) hF  hL5 h15) (fun r9 B9 M16 hq18 => by obtain ⟨rfl, hL17, v19, rfl, hq18⟩ := hq18; exact ⟨_, rfl, (MzS.loc [(0, .ref (mz_ad B (1, 0))), (1, .ref (mz_ad B (14, x))), (3, .int y3), (5, .int y5)] ⟨rfl, rfl, rfl, rfl, trivial⟩ (tm_Store_follow_79 hF hx hH17 y3 y5 v19 M16 hL17 hq18))⟩)))))))))) (fun hc24 => (mz_aload_n d_Store_follow_53 rfl (mz_getR (k := 0) (a := (2, 0)) cl_1 d_Store_follow_54 (by decide) wf_Store_11 rfl (hF 1 0 rfl (by decide)) rfl (hL5 (1, 0) 0 (2, 0) rfl rfl (by decide)) (mz_iload d_Store_follow_57 rfl (match (h11.2 hc24) with | ⟨j20, h21, h22, h23⟩ => mz_aald (a := (3, j20)) j20 d_Store_follow_59 (hF 2 0 rfl (by decide)) rfl h21 h22 (hL5 (2, 0) j20 (3, j20) rfl (mzLk_2 h22) (by decide)) (mz_getIN (k := 2) cl_2 d_Store_follow_60 (by decide) wf_Store_22 rfl (hF 3 j20 rfl h22) rfl (mz_goto 79 d_Store_follow_63 rfl (MzS.loc [(0, .ref (mz_ad B (1, 0))), (1, .ref (mz_ad B (14, x))), (3, .int y3), (5, .int y5)] ⟨rfl, rfl, rfl, rfl, trivial⟩ (tm_Store_follow_79 hF hx hH17 y3 y5 (mz_i M4 (3, j20) 2) M4 hL5 h23))))))))))))))) (fun hc25 => (mz_iconst (-1 : Int32) d_Store_follow_41 (by decide) (mz_iret .int d_Store_follow_42 rfl rfl ⟨rfl, hL5, _, rfl, (hq6.2 hc25)⟩))))⟩))))))))))))))
theorem tm_Store_follow_12 {G : MzG} {B : MzB} {d : Nat} {K : Int32 → MzM → Prop} (hF : mzLive false B) {x : Nat} (hx : x < 2)   (y3 : Int32) (ys0 : Int32) (M : MzM) (hL : mzLnk false M) (h : wp_Store_follow_12 x  K y3 ys0 M) : MzS G B (d + 2) mm_Store_follow M (0, 0) (mzK1 false B K) 12 [(0, .ref (mz_ad B (1, 0))), (1, .ref (mz_ad B (14, x))), (3, .int y3)] [.int ys0] := by
  unfold wp_Store_follow_12 at h
  exact (mz_istore d_Store_follow_12 (by decide) (mz_iconst (0 : Int32) d_Store_follow_14 (by decide) (mz_istore d_Store_follow_15 (by decide) (MzS.loc [(0, .ref (mz_ad B (1, 0))), (1, .ref (mz_ad B (14, x))), (3, .int y3), (4, .int ys0), (5, .int (0 : Int32))] ⟨rfl, rfl, rfl, rfl, rfl, trivial⟩ (match h with | ⟨r2, h3⟩ => tm_Store_follow_17 hF hx  r2 y3 ys0 (0 : Int32) M hL h3)))))
theorem tm_Store_follow {G : MzG} {B : MzB} {d : Nat} {K : Int32 → MzM → Prop} (hF : mzLive false B) {x : Nat} (hx : x < 2) {a2 : Int32} {a3 : Int32} {M : MzM} (hL : mzLnk false M) (h : wp_Store_follow x a2 a3 M K) : MzC G B (d + 2) mm_Store_follow [.ref (mz_ad B (1, 0)), .ref (mz_ad B (14, x)), .int a2, .int a3] M (0, 0) (mzK1 false B K) := by
  unfold wp_Store_follow at h
  exact MzC.of rfl (Nat.le_of_ble_eq_true rfl) (show MzS G B (d + 2) mm_Store_follow M (0, 0) (mzK1 false B K) 0 [(0, .ref (mz_ad B (1, 0))), (1, .ref (mz_ad B (14, x))), (2, .int a2), (3, .int a3)] [] from (mz_aload_n d_Store_follow_0 rfl (mz_getIN (k := 2) cl_7 d_Store_follow_1 (by decide) wf_Store_39 rfl (hF 14 x rfl hx) rfl (mz_if_eq 11 d_Store_follow_4 rfl (fun hc1 => (mz_iload_n d_Store_follow_11 rfl (MzS.loc [(0, .ref (mz_ad B (1, 0))), (1, .ref (mz_ad B (14, x))), (3, .int a3)] ⟨rfl, rfl, rfl, trivial⟩ (tm_Store_follow_12 hF hx  a3 a2 M hL (h.1 hc1))))) (fun hc1 => (mz_iconst (0 : Int32) d_Store_follow_7 (by decide) (mz_goto 12 d_Store_follow_8 rfl (MzS.loc [(0, .ref (mz_ad B (1, 0))), (1, .ref (mz_ad B (14, x))), (3, .int a3)] ⟨rfl, rfl, rfl, trivial⟩ (tm_Store_follow_12 hF hx  a3 (0 : Int32) M hL (h.2 hc1))))))))))
def mm_Path_newName : MzT := (⟨"ParcelLine$Path", "newName", "()I"⟩, prog_9_method_5_code, 1, (Option.some Jvm.ClassFile.FieldType.int))
theorem cs_Path_newName {mm : MzT} : mzCall mm mm_Path_newName 0 := ⟨wn_Path, wco_Path_newName, by decide +kernel, by decide⟩
theorem d_Path_newName_0 : decode mm_Path_newName.2.1 0 = .ok (.aload_n 0, 1) := by decide +kernel
theorem d_Path_newName_1 : decode mm_Path_newName.2.1 1 = .ok (.getfield 15, 3) := by decide +kernel
theorem d_Path_newName_4 : decode mm_Path_newName.2.1 4 = .ok (.ifCond .le 29, 3) := by decide +kernel
theorem d_Path_newName_7 : decode mm_Path_newName.2.1 7 = .ok (.aload_n 0, 1) := by decide +kernel
theorem d_Path_newName_8 : decode mm_Path_newName.2.1 8 = .ok (.getfield 15, 3) := by decide +kernel
theorem d_Path_newName_11 : decode mm_Path_newName.2.1 11 = .ok (.aload_n 0, 1) := by decide +kernel
theorem d_Path_newName_12 : decode mm_Path_newName.2.1 12 = .ok (.getfield 9, 3) := by decide +kernel
theorem d_Path_newName_15 : decode mm_Path_newName.2.1 15 = .ok (.arraylength, 1) := by decide +kernel
theorem d_Path_newName_16 : decode mm_Path_newName.2.1 16 = .ok (.if_icmp .gt 17, 3) := by decide +kernel
theorem d_Path_newName_19 : decode mm_Path_newName.2.1 19 = .ok (.aload_n 0, 1) := by decide +kernel
theorem d_Path_newName_20 : decode mm_Path_newName.2.1 20 = .ok (.getfield 9, 3) := by decide +kernel
theorem d_Path_newName_23 : decode mm_Path_newName.2.1 23 = .ok (.aload_n 0, 1) := by decide +kernel
theorem d_Path_newName_24 : decode mm_Path_newName.2.1 24 = .ok (.getfield 15, 3) := by decide +kernel
theorem d_Path_newName_27 : decode mm_Path_newName.2.1 27 = .ok (.iconst 1, 1) := by decide +kernel
theorem d_Path_newName_28 : decode mm_Path_newName.2.1 28 = .ok (.isub, 1) := by decide +kernel
theorem d_Path_newName_29 : decode mm_Path_newName.2.1 29 = .ok (.iaload, 1) := by decide +kernel
theorem d_Path_newName_30 : decode mm_Path_newName.2.1 30 = .ok (.goto 4, 3) := by decide +kernel
theorem d_Path_newName_33 : decode mm_Path_newName.2.1 33 = .ok (.iconst 0, 1) := by decide +kernel
theorem d_Path_newName_34 : decode mm_Path_newName.2.1 34 = .ok (.ireturn, 1) := by decide +kernel
def wp_Path_newName (x : Nat)  (M : MzM) (K : Int32 → MzM → Prop) : Prop := (((mz_i M (14, x) 1) ≤ 0 → K (0 : Int32) M) ∧ (¬ (mz_i M (14, x) 1) ≤ 0 → (((30 : Int32) < (mz_i M (14, x) 1) → K (0 : Int32) M) ∧ (¬ (30 : Int32) < (mz_i M (14, x) 1) → (∃ j1 : Nat, ((mz_i M (14, x) 1) - (1 : Int32)).toInt = (j1 : Int) ∧ j1 < 30 ∧ K (mz_i M (15, x) j1) M)))))
theorem tm_Path_newName {G : MzG} {B : MzB} {d : Nat} {K : Int32 → MzM → Prop} (hF : mzLive false B) {x : Nat} (hx : x < 2)  {M : MzM} (hL : mzLnk false M) (h : wp_Path_newName x  M K) : MzC G B d mm_Path_newName [.ref (mz_ad B (14, x))] M (0, 0) (mzK1 false B K) := by
  unfold wp_Path_newName at h
  exact MzC.of rfl (Nat.le_of_ble_eq_true rfl) (show MzS G B d mm_Path_newName M (0, 0) (mzK1 false B K) 0 [(0, .ref (mz_ad B (14, x)))] [] from (mz_aload_n d_Path_newName_0 rfl (mz_getI (k := 1) cl_7 d_Path_newName_1 (by decide) wf_Path_15 rfl (hF 14 x rfl hx) rfl (mz_if_le 33 d_Path_newName_4 rfl (fun hc6 => (mz_iconst (0 : Int32) d_Path_newName_33 (by decide) (mz_iret .int d_Path_newName_34 rfl rfl ⟨rfl, hL, _, rfl, (h.1 hc6)⟩))) (fun hc6 => (mz_aload_n d_Path_newName_7 rfl (mz_getI (k := 1) cl_7 d_Path_newName_8 (by decide) wf_Path_15 rfl (hF 14 x rfl hx) rfl (mz_aload_n d_Path_newName_11 rfl (mz_getR (k := 0) (a := (15, x)) cl_7 d_Path_newName_12 (by decide) wf_Path_9 rfl (hF 14 x rfl hx) rfl (hL (14, x) 0 (15, x) rfl rfl hx) (mz_alen (30 : Int32) d_Path_newName_15 (hF 15 x rfl hx) rfl (by decide) (mz_icmp_gt 33 d_Path_newName_16 rfl (fun hc5 => (mz_iconst (0 : Int32) d_Path_newName_33 (by decide) (mz_iret .int d_Path_newName_34 rfl rfl ⟨rfl, hL, _, rfl, ((h.2 hc6).1 hc5)⟩))) (fun hc5 => (mz_aload_n d_Path_newName_19 rfl (mz_getR (k := 0) (a := (15, x)) cl_7 d_Path_newName_20 (by decide) wf_Path_9 rfl (hF 14 x rfl hx) rfl (hL (14, x) 0 (15, x) rfl rfl hx) (mz_aload_n d_Path_newName_23 rfl (mz_getI (k := 1) cl_7 d_Path_newName_24 (by decide) wf_Path_15 rfl (hF 14 x rfl hx) rfl (mz_iconst (1 : Int32) d_Path_newName_27 (by decide) (mz_isub d_Path_newName_28 (match ((h.2 hc6).2 hc5) with | ⟨j1, h2, h3, h4⟩ => mz_iald j1 d_Path_newName_29 (hF 15 x rfl hx) rfl h2 h3 (mz_goto 34 d_Path_newName_30 rfl (mz_iret .int d_Path_newName_34 rfl rfl ⟨rfl, hL, _, rfl, h4⟩)))))))))))))))))))))
def mm_Ses_locate : MzT := (⟨"ParcelLine$Session", "locate", "()V"⟩, prog_11_method_14_code, 4, (Option.none : Option Jvm.ClassFile.FieldType))
theorem cs_Ses_locate {mm : MzT} : mzCall mm mm_Ses_locate 0 := ⟨wn_Ses, wco_Ses_locate, by decide +kernel, by decide⟩
theorem d_Ses_locate_0 : decode mm_Ses_locate.2.1 0 = .ok (.aload_n 0, 1) := by decide +kernel
theorem d_Ses_locate_1 : decode mm_Ses_locate.2.1 1 = .ok (.getfield 15, 3) := by decide +kernel
theorem d_Ses_locate_4 : decode mm_Ses_locate.2.1 4 = .ok (.getfield 143, 3) := by decide +kernel
theorem d_Ses_locate_7 : decode mm_Ses_locate.2.1 7 = .ok (.aload_n 0, 1) := by decide +kernel
theorem d_Ses_locate_8 : decode mm_Ses_locate.2.1 8 = .ok (.getfield 9, 3) := by decide +kernel
theorem d_Ses_locate_11 : decode mm_Ses_locate.2.1 11 = .ok (.iaload, 1) := by decide +kernel
theorem d_Ses_locate_12 : decode mm_Ses_locate.2.1 12 = .ok (.istore_n 1, 1) := by decide +kernel
theorem d_Ses_locate_13 : decode mm_Ses_locate.2.1 13 = .ok (.aload_n 0, 1) := by decide +kernel
theorem d_Ses_locate_14 : decode mm_Ses_locate.2.1 14 = .ok (.aload_n 0, 1) := by decide +kernel
theorem d_Ses_locate_15 : decode mm_Ses_locate.2.1 15 = .ok (.getfield 15, 3) := by decide +kernel
theorem d_Ses_locate_18 : decode mm_Ses_locate.2.1 18 = .ok (.aload_n 0, 1) := by decide +kernel
theorem d_Ses_locate_19 : decode mm_Ses_locate.2.1 19 = .ok (.getfield 38, 3) := by decide +kernel
theorem d_Ses_locate_22 : decode mm_Ses_locate.2.1 22 = .ok (.iload_n 1, 1) := by decide +kernel
theorem d_Ses_locate_23 : decode mm_Ses_locate.2.1 23 = .ok (.aload_n 0, 1) := by decide +kernel
theorem d_Ses_locate_24 : decode mm_Ses_locate.2.1 24 = .ok (.getfield 38, 3) := by decide +kernel
theorem d_Ses_locate_27 : decode mm_Ses_locate.2.1 27 = .ok (.getfield 247, 3) := by decide +kernel
theorem d_Ses_locate_30 : decode mm_Ses_locate.2.1 30 = .ok (.invokevirtual 250, 3) := by decide +kernel
theorem d_Ses_locate_33 : decode mm_Ses_locate.2.1 33 = .ok (.putfield 56, 3) := by decide +kernel
theorem d_Ses_locate_36 : decode mm_Ses_locate.2.1 36 = .ok (.aload_n 0, 1) := by decide +kernel
theorem d_Ses_locate_37 : decode mm_Ses_locate.2.1 37 = .ok (.getfield 15, 3) := by decide +kernel
theorem d_Ses_locate_40 : decode mm_Ses_locate.2.1 40 = .ok (.aload_n 0, 1) := by decide +kernel
theorem d_Ses_locate_41 : decode mm_Ses_locate.2.1 41 = .ok (.getfield 38, 3) := by decide +kernel
theorem d_Ses_locate_44 : decode mm_Ses_locate.2.1 44 = .ok (.iload_n 1, 1) := by decide +kernel
theorem d_Ses_locate_45 : decode mm_Ses_locate.2.1 45 = .ok (.aload_n 0, 1) := by decide +kernel
theorem d_Ses_locate_46 : decode mm_Ses_locate.2.1 46 = .ok (.getfield 38, 3) := by decide +kernel
theorem d_Ses_locate_49 : decode mm_Ses_locate.2.1 49 = .ok (.getfield 247, 3) := by decide +kernel
theorem d_Ses_locate_52 : decode mm_Ses_locate.2.1 52 = .ok (.iconst 1, 1) := by decide +kernel
theorem d_Ses_locate_53 : decode mm_Ses_locate.2.1 53 = .ok (.isub, 1) := by decide +kernel
theorem d_Ses_locate_54 : decode mm_Ses_locate.2.1 54 = .ok (.invokevirtual 250, 3) := by decide +kernel
theorem d_Ses_locate_57 : decode mm_Ses_locate.2.1 57 = .ok (.istore_n 2, 1) := by decide +kernel
theorem d_Ses_locate_58 : decode mm_Ses_locate.2.1 58 = .ok (.aload_n 0, 1) := by decide +kernel
theorem d_Ses_locate_59 : decode mm_Ses_locate.2.1 59 = .ok (.getfield 56, 3) := by decide +kernel
theorem d_Ses_locate_62 : decode mm_Ses_locate.2.1 62 = .ok (.iconst (-1), 1) := by decide +kernel
theorem d_Ses_locate_63 : decode mm_Ses_locate.2.1 63 = .ok (.if_icmp .ne 28, 3) := by decide +kernel
theorem d_Ses_locate_66 : decode mm_Ses_locate.2.1 66 = .ok (.aload_n 0, 1) := by decide +kernel
theorem d_Ses_locate_67 : decode mm_Ses_locate.2.1 67 = .ok (.getfield 38, 3) := by decide +kernel
theorem d_Ses_locate_70 : decode mm_Ses_locate.2.1 70 = .ok (.invokevirtual 254, 3) := by decide +kernel
theorem d_Ses_locate_73 : decode mm_Ses_locate.2.1 73 = .ok (.ifCond .eq 18, 3) := by decide +kernel
theorem d_Ses_locate_76 : decode mm_Ses_locate.2.1 76 = .ok (.aload_n 0, 1) := by decide +kernel
theorem d_Ses_locate_77 : decode mm_Ses_locate.2.1 77 = .ok (.getfield 15, 3) := by decide +kernel
theorem d_Ses_locate_80 : decode mm_Ses_locate.2.1 80 = .ok (.iload_n 2, 1) := by decide +kernel
theorem d_Ses_locate_81 : decode mm_Ses_locate.2.1 81 = .ok (.invokevirtual 257, 3) := by decide +kernel
theorem d_Ses_locate_84 : decode mm_Ses_locate.2.1 84 = .ok (.ifCond .eq 7, 3) := by decide +kernel
theorem d_Ses_locate_87 : decode mm_Ses_locate.2.1 87 = .ok (.iconst 1, 1) := by decide +kernel
theorem d_Ses_locate_88 : decode mm_Ses_locate.2.1 88 = .ok (.goto 4, 3) := by decide +kernel
theorem d_Ses_locate_91 : decode mm_Ses_locate.2.1 91 = .ok (.iconst 0, 1) := by decide +kernel
theorem d_Ses_locate_92 : decode mm_Ses_locate.2.1 92 = .ok (.istore_n 3, 1) := by decide +kernel
theorem d_Ses_locate_93 : decode mm_Ses_locate.2.1 93 = .ok (.aload_n 0, 1) := by decide +kernel
theorem d_Ses_locate_94 : decode mm_Ses_locate.2.1 94 = .ok (.iload_n 3, 1) := by decide +kernel
theorem d_Ses_locate_95 : decode mm_Ses_locate.2.1 95 = .ok (.ifCond .eq 7, 3) := by decide +kernel
theorem d_Ses_locate_98 : decode mm_Ses_locate.2.1 98 = .ok (.iload_n 2, 1) := by decide +kernel
theorem d_Ses_locate_99 : decode mm_Ses_locate.2.1 99 = .ok (.goto 4, 3) := by decide +kernel
theorem d_Ses_locate_102 : decode mm_Ses_locate.2.1 102 = .ok (.iconst (-1), 1) := by decide +kernel
theorem d_Ses_locate_103 : decode mm_Ses_locate.2.1 103 = .ok (.putfield 59, 3) := by decide +kernel
theorem d_Ses_locate_106 : decode mm_Ses_locate.2.1 106 = .ok (.return_, 1) := by decide +kernel
def wp_Ses_locate_92 (x : Nat)  (K : MzM → Prop) (y2 : Int32) (ys0 : Int32) (M : MzM) : Prop := ((ys0 = 0 → (∀ M25 : MzM, M25 = mz_si M (8, x) 13 (-1 : Int32) → K M25)) ∧ (¬ ys0 = 0 → (∀ M26 : MzM, M26 = mz_si M (8, x) 13 y2 → K M26)))
def wp_Ses_locate_91 (x : Nat)  (K : MzM → Prop) (y2 : Int32) (M : MzM) : Prop := wp_Ses_locate_92 x  K y2 (0 : Int32) M
def wp_Ses_locate (x : Nat)  (M : MzM) (K : MzM → Prop) : Prop := (∃ j1 : Nat, (mz_i M (8, x) 0).toInt = (j1 : Int) ∧ j1 < 2 ∧ wp_Store_follow x (mz_i M (6, 0) j1) (mz_i M (14, x) 1) M (fun v8 M5 => (∀ M9 : MzM, M9 = mz_si M5 (8, x) 12 v8 → wp_Store_follow x (mz_i M (6, 0) j1) ((mz_i M9 (14, x) 1) - (1 : Int32)) M9 (fun v13 M10 => ((¬ (mz_i M10 (8, x) 12) = (-1 : Int32) → wp_Ses_locate_91 x  K v13 M10) ∧ ((mz_i M10 (8, x) 12) = (-1 : Int32) → wp_Path_newName x  M10 (fun v17 M14 => ((v17 = 0 → wp_Ses_locate_91 x  K v13 M14) ∧ (¬ v17 = 0 → wp_Store_isDirectory  v13 M14 (fun v21 M18 => ((v21 = 0 → wp_Ses_locate_91 x  K v13 M18) ∧ (¬ v21 = 0 → wp_Ses_locate_92 x  K v13 (1 : Int32) M18))))))))))))
theorem tm_Ses_locate_92 {G : MzG} {B : MzB} {d : Nat} {K : MzM → Prop} (hF : mzLive false B) {x : Nat} (hx : x < 2)   (y2 : Int32) (ys0 : Int32) (M : MzM) (hL : mzLnk false M) (h : wp_Ses_locate_92 x  K y2 ys0 M) : MzS G B (d + 3) mm_Ses_locate M (0, 0) (mzK0 false B K) 92 [(0, .ref (mz_ad B (8, x))), (2, .int y2)] [.int ys0] := by
  unfold wp_Ses_locate_92 at h
  exact (mz_istore_n d_Ses_locate_92 (by decide) (mz_aload_n d_Ses_locate_93 rfl (mz_iload_n d_Ses_locate_94 rfl (mz_if_eq 102 d_Ses_locate_95 rfl (fun hc27 => (mz_iconst (-1 : Int32) d_Ses_locate_102 (by decide) (mz_putI (k := 13) cl_4 d_Ses_locate_103 (by decide) wf_Ses_59 rfl rfl rfl rfl (hF 8 x rfl hx) rfl (let M25 : MzM := mz_si M (8, x) 13 (-1 : Int32); (mz_vret d_Ses_locate_106 rfl ⟨rfl, hL, rfl, ((h.1 hc27) M25 rfl)⟩))))) (fun hc27 => (mz_iload_n d_Ses_locate_98 rfl (mz_goto 103 d_Ses_locate_99 rfl (mz_putI (k := 13) cl_4 d_Ses_locate_103 (by decide) wf_Ses_59 rfl rfl rfl rfl (hF 8 x rfl hx) rfl (let M26 : MzM := mz_si M (8, x) 13 y2; (mz_vret d_Ses_locate_106 rfl ⟨rfl, hL, rfl, ((h.2 hc27) M26 rfl)⟩))))))))))
theorem tm_Ses_locate_91 {G : MzG} {B : MzB} {d : Nat} {K : MzM → Prop} (hF : mzLive false B) {x : Nat} (hx : x < 2)   (y2 : Int32) (M : MzM) (hL : mzLnk false M) (h : wp_Ses_locate_91 x  K y2 M) : MzS G B (d + 3) mm_Ses_locate M (0, 0) (mzK0 false B K) 91 [(0, .ref (mz_ad B (8, x))), (2, .int y2)] [] := by
  unfold wp_Ses_locate_91 at h
  exact (mz_iconst (0 : Int32) d_Ses_locate_91 (by decide) (MzS.loc [(0, .ref (mz_ad B (8, x))), (2, .int y2)] ⟨rfl, rfl, trivial⟩ (tm_Ses_locate_92 hF hx  y2 (0 : Int32) M hL h)))
theorem tm_Ses_locate {G : MzG} {B : MzB} {d : Nat} {K : MzM → Prop} (hF : mzLive false B) {x : Nat} (hx : x < 2)  {M : MzM} (hL : mzLnk false M) (h : wp_Ses_locate x  M K) : MzC G B (d + 3) mm_Ses_locate [.ref (mz_ad B (8, x))] M (0, 0) (mzK0 false B K) := by
  unfold wp_Ses_locate at h
  exact MzC.of rfl (Nat.le_of_ble_eq_true rfl) (show MzS G B (d + 3) mm_Ses_locate M (0, 0) (mzK0 false B K) 0 [(0, .ref (mz_ad B (8, x)))] [] from (mz_aload_n d_Ses_locate_0 rfl (mz_getR (k := 1) (a := (1, 0)) cl_4 d_Ses_locate_1 (by decide) wf_Ses_15 rfl (hF 8 x rfl hx) rfl (hL (8, x) 1 (1, 0) rfl rfl hx) (mz_getRN (k := 1) (a := (6, 0)) cl_1 d_Ses_locate_4 (by decide) wf_Ses_143 rfl (hF 1 0 rfl (by decide)) rfl (hL (1, 0) 1 (6, 0) rfl rfl (by decide)) (mz_aload_n d_Ses_locate_7 rfl (mz_getI (k := 0) cl_4 d_Ses_locate_8 (by decide) wf_Ses_9 rfl (hF 8 x rfl hx) rfl (match h with | ⟨j1, h2, h3, h4⟩ => mz_iald j1 d_Ses_locate_11 (hF 6 0 rfl (by decide)) rfl h2 h3 (mz_istore_n d_Ses_locate_12 (by decide) (mz_aload_n d_Ses_locate_13 rfl (mz_aload_n d_Ses_locate_14 rfl (mz_getR (k := 1) (a := (1, 0)) cl_4 d_Ses_locate_15 (by decide) wf_Ses_15 rfl (hF 8 x rfl hx) rfl (hL (8, x) 1 (1, 0) rfl rfl hx) (mz_aload_n d_Ses_locate_18 rfl (mz_getR (k := 4) (a := (14, x)) cl_4 d_Ses_locate_19 (by decide) wf_Ses_38 rfl (hF 8 x rfl hx) rfl (hL (8, x) 4 (14, x) rfl rfl hx) (mz_iload_n d_Ses_locate_22 rfl (mz_aload_n d_Ses_locate_23 rfl (mz_getR (k := 4) (a := (14, x)) cl_4 d_Ses_locate_24 (by decide) wf_Ses_38 rfl (hF 8 x rfl hx) rfl (hL (8, x) 4 (14, x) rfl rfl hx) (mz_getIN (k := 1) cl_7 d_Ses_locate_27 (by decide) wf_Ses_247 rfl (hF 14 x rfl hx) rfl (mz_callV (As := [.ref (mz_ad B (14, x)), .int (mz_i M (6, 0) j1), .int (mz_i M (14, x) 1)]) (st := [.ref (mz_ad B (8, x))]) (hF 1 0 rfl (by decide)) rfl (mzClOf cl_1) 0 0 d_Ses_locate_30 cs_Store_follow wl_Ses_250 wi_Store_follow wse_Store_follow (Nat.le_of_ble_eq_true rfl) (Nat.zero_le _) (Nat.zero_le _) (MzC.mono (tm_Store_follow (d := d) hF hx hL h4) (fun r9 B9 M5 hq7 => by obtain ⟨rfl, hL6, v8, rfl, hq7⟩ := hq7; exact ⟨_, rfl, (mz_putI (k := 12) cl_4 d_Ses_locate_33 (by decide) wf_Ses_56 rfl rfl rfl rfl (hF 8 x rfl hx) rfl (let M9 : MzM := mz_si M5 (8, x) 12 v8; (mz_aload_n d_Ses_locate_36 rfl (mz_getR (k := 1) (a := (1, 0)) cl_4 d_Ses_locate_37 (by decide) wf_Ses_15 rfl (hF 8 x rfl hx) rfl (hL6 (8, x) 1 (1, 0) rfl rfl hx) (mz_aload_n d_Ses_locate_40 rfl (mz_getR (k := 4) (a := (14, x)) cl_4 d_Ses_locate_41 (by decide) wf_Ses_38 rfl (hF 8 x rfl hx) rfl (hL6 (8, x) 4 (14, x) rfl rfl hx) (mz_iload_n d_Ses_locate_44 rfl (mz_aload_n d_Ses_locate_45 rfl (mz_getR (k := 4) (a := (14, x)) cl_4 d_Ses_locate_46 (by decide) wf_Ses_38 rfl (hF 8 x rfl hx) rfl (hL6 (8, x) 4 (14, x) rfl rfl hx) (mz_getIN (k := 1) cl_7 d_Ses_locate_49 (by decide) wf_Ses_247 rfl (hF 14 x rfl hx) rfl (mz_iconst (1 : Int32) d_Ses_locate_52 (by decide) (mz_isub d_Ses_locate_53 (mz_callV (As := [.ref (mz_ad B (14, x)), .int (mz_i M (6, 0) j1), .int ((mz_i M9 (14, x) 1) - (1 : Int32))]) (st := []) (hF 1 0 rfl (by decide)) rfl (mzClOf cl_1) 0 0 d_Ses_locate_54 cs_Store_follow wl_Ses_250 wi_Store_follow wse_Store_follow (Nat.le_of_ble_eq_true rfl) (Nat.zero_le _) (Nat.zero_le _) (MzC.mono (tm_Store_follow (d := d) hF hx hL6 (hq7 M9 rfl)) (fun r9 B9 M10 hq12 => by obtain ⟨rfl, hL11, v13, rfl, hq12⟩ := hq12; exact ⟨_, rfl, (mz_istore_n d_Ses_locate_57 (by decide) (mz_aload_n d_Ses_locate_58 rfl (mz_getI (k := 12) cl_4 d_Ses_locate_59 (by decide) wf_Ses_56 rfl (hF 8 x rfl hx) rfl (mz_iconst (-1 : Int32) d_Ses_locate_62 (by decide) (mz_icmp_ne 91 d_Ses_locate_63 rfl (fun hc24 => (MzS.loc [(0, .ref (mz_ad B (8, x))), (2, .int v13)] ⟨rfl, rfl, trivial⟩ (tm_Ses_locate_91 hF hx  v13 M10 hL11 (hq12.1 hc24)))) (fun hc24 => (mz_aload_n d_Ses_locate_66 rfl (mz_getR (k := 4) (a := (14, x)) cl_4 d_Ses_locate_67 (by decide) wf_Ses_38 rfl (hF 8 x rfl hx) rfl (hL11 (8, x) 4 (14, x) rfl rfl hx) (mz_callV (As := []) (st := []) (hF 14 x rfl hx) rfl (mzClOf cl_7) 0 0 d_Ses_locate_70 cs_Path_newName wl_Ses_254 wi_Path_newName wse_Path_newName (Nat.le_of_ble_eq_true rfl) (Nat.zero_le _) (Nat.zero_le _) (MzC.mono (tm_Path_newName (d := (d + 2)) hF hx hL11 (hq12.2 hc24)) (fun r9 B9 M14 hq16 => by obtain ⟨rfl, hL15, v17, rfl, hq16⟩ := hq16; exact ⟨_, rfl, (mz_if_eq 91 d_Ses_locate_73 rfl (fun hc23 => (MzS.loc [(0, .ref (mz_ad B (8, x))), (2, .int v13)] ⟨rfl, rfl, trivial⟩ (tm_Ses_locate_91 hF hx  v13 M14 hL15 (hq16.1 hc23)))) (fun hc23 => (mz_aload_n d_Ses_locate_76 rfl (mz_getR (k := 1) (a := (1, 0)) cl_4 d_Ses_locate_77 (by decide) wf_Ses_15 rfl (hF 8 x rfl hx) rfl (hL15 (8, x) 1 (1, 0) rfl rfl hx) (mz_iload_n d_Ses_locate_80 rfl (mz_callV (As := [.int v13]) (st := []) (hF 1 0 rfl (by decide)) rfl (mzClOf cl_1) 0 0 d_Ses_locate_81 cs_Store_isDirectory wl_Ses_257 wi_Store_isDirectory wse_Store_isDirectory (Nat.le_of_ble_eq_true rfl) (Nat.zero_le _) (Nat.zero_le _) (MzC.mono (tm_Store_isDirectory (d := (d + 2)) hF  hL15 (hq16.2 hc23)) (fun r9 B9 M18 hq20 => by obtain ⟨rfl, hL19, v21, rfl, hq20⟩ := hq20; exact ⟨_, rfl, (mz_if_eq 91 d_Ses_locate_84 rfl (fun hc22 => (MzS.loc [(0, .ref (mz_ad B (8, x))), (2, .int v13)] ⟨rfl, rfl, trivial⟩ (tm_Ses_locate_91 hF hx  v13 M18 hL19 (hq20.1 hc22)))) (fun hc22 => (mz_iconst (1 : Int32) d_Ses_locate_87 (by decide) (mz_goto 92 d_Ses_locate_88 rfl (MzS.loc [(0, .ref (mz_ad B (8, x))), (2, .int v13)] ⟨rfl, rfl, trivial⟩ (tm_Ses_locate_92 hF hx  v13 (1 : Int32) M18 hL19 (hq20.2 hc22)))))))⟩))))))))⟩)))))))))))⟩)))))))))))))))⟩))))))))))))))))))))
def mm_Ses_changeDirectory : MzT := (⟨"ParcelLine$Session", "changeDirectory", "()I"⟩, prog_11_method_21_code, 1, (Option.some Jvm.ClassFile.FieldType.int))
theorem cs_Ses_changeDirectory {mm : MzT} : mzCall mm mm_Ses_changeDirectory 0 := ⟨wn_Ses, wco_Ses_changeDirectory, by decide +kernel, by decide⟩
theorem d_Ses_changeDirectory_0 : decode mm_Ses_changeDirectory.2.1 0 = .ok (.aload_n 0, 1) := by decide +kernel
theorem d_Ses_changeDirectory_1 : decode mm_Ses_changeDirectory.2.1 1 = .ok (.getfield 15, 3) := by decide +kernel
theorem d_Ses_changeDirectory_4 : decode mm_Ses_changeDirectory.2.1 4 = .ok (.aload_n 0, 1) := by decide +kernel
theorem d_Ses_changeDirectory_5 : decode mm_Ses_changeDirectory.2.1 5 = .ok (.getfield 56, 3) := by decide +kernel
theorem d_Ses_changeDirectory_8 : decode mm_Ses_changeDirectory.2.1 8 = .ok (.invokevirtual 257, 3) := by decide +kernel
theorem d_Ses_changeDirectory_11 : decode mm_Ses_changeDirectory.2.1 11 = .ok (.ifCond .ne 7, 3) := by decide +kernel
theorem d_Ses_changeDirectory_14 : decode mm_Ses_changeDirectory.2.1 14 = .ok (.sipush 550, 3) := by decide +kernel
theorem d_Ses_changeDirectory_17 : decode mm_Ses_changeDirectory.2.1 17 = .ok (.ireturn, 1) := by decide +kernel
theorem d_Ses_changeDirectory_18 : decode mm_Ses_changeDirectory.2.1 18 = .ok (.aload_n 0, 1) := by decide +kernel
theorem d_Ses_changeDirectory_19 : decode mm_Ses_changeDirectory.2.1 19 = .ok (.getfield 15, 3) := by decide +kernel
theorem d_Ses_changeDirectory_22 : decode mm_Ses_changeDirectory.2.1 22 = .ok (.getfield 143, 3) := by decide +kernel
theorem d_Ses_changeDirectory_25 : decode mm_Ses_changeDirectory.2.1 25 = .ok (.aload_n 0, 1) := by decide +kernel
theorem d_Ses_changeDirectory_26 : decode mm_Ses_changeDirectory.2.1 26 = .ok (.getfield 9, 3) := by decide +kernel
theorem d_Ses_changeDirectory_29 : decode mm_Ses_changeDirectory.2.1 29 = .ok (.aload_n 0, 1) := by decide +kernel
theorem d_Ses_changeDirectory_30 : decode mm_Ses_changeDirectory.2.1 30 = .ok (.getfield 56, 3) := by decide +kernel
theorem d_Ses_changeDirectory_33 : decode mm_Ses_changeDirectory.2.1 33 = .ok (.iastore, 1) := by decide +kernel
theorem d_Ses_changeDirectory_34 : decode mm_Ses_changeDirectory.2.1 34 = .ok (.sipush 250, 3) := by decide +kernel
theorem d_Ses_changeDirectory_37 : decode mm_Ses_changeDirectory.2.1 37 = .ok (.ireturn, 1) := by decide +kernel
def wp_Ses_changeDirectory (x : Nat)  (M : MzM) (K : Int32 → MzM → Prop) : Prop := wp_Store_isDirectory  (mz_i M (8, x) 12) M (fun v4 M1 => ((¬ v4 = 0 → (∃ j8 : Nat, (mz_i M1 (8, x) 0).toInt = (j8 : Int) ∧ j8 < 2 ∧ ∀ M5 : MzM, M5 = mz_si M1 (6, 0) j8 (mz_i M1 (8, x) 12) → K (250 : Int32) M5)) ∧ (v4 = 0 → K (550 : Int32) M1)))
theorem tm_Ses_changeDirectory {G : MzG} {B : MzB} {d : Nat} {K : Int32 → MzM → Prop} (hF : mzLive false B) {x : Nat} (hx : x < 2)  {M : MzM} (hL : mzLnk false M) (h : wp_Ses_changeDirectory x  M K) : MzC G B (d + 1) mm_Ses_changeDirectory [.ref (mz_ad B (8, x))] M (0, 0) (mzK1 false B K) := by
  unfold wp_Ses_changeDirectory at h
  exact MzC.of rfl (Nat.le_of_ble_eq_true rfl) (show MzS G B (d + 1) mm_Ses_changeDirectory M (0, 0) (mzK1 false B K) 0 [(0, .ref (mz_ad B (8, x)))] [] from (mz_aload_n d_Ses_changeDirectory_0 rfl (mz_getR (k := 1) (a := (1, 0)) cl_4 d_Ses_changeDirectory_1 (by decide) wf_Ses_15 rfl (hF 8 x rfl hx) rfl (hL (8, x) 1 (1, 0) rfl rfl hx) (mz_aload_n d_Ses_changeDirectory_4 rfl (mz_getI (k := 12) cl_4 d_Ses_changeDirectory_5 (by decide) wf_Ses_56 rfl (hF 8 x rfl hx) rfl (mz_callV (As := [.int (mz_i M (8, x) 12)]) (st := []) (hF 1 0 rfl (by decide)) rfl (mzClOf cl_1) 0 0 d_Ses_changeDirectory_8 cs_Store_isDirectory wl_Ses_257 wi_Store_isDirectory wse_Store_isDirectory (Nat.le_of_ble_eq_true rfl) (Nat.zero_le _) (Nat.zero_le _) (MzC.mono (tm_Store_isDirectory (d := d) hF  hL h) (fun r9 B9 M1 hq3 => by obtain ⟨rfl, hL2, v4, rfl, hq3⟩ := hq3; exact ⟨_, rfl, (mz_if_ne 18 d_Ses_changeDirectory_11 rfl (fun hc11 => (mz_aload_n d_Ses_changeDirectory_18 rfl (mz_getR (k := 1) (a := (1, 0)) cl_4 d_Ses_changeDirectory_19 (by decide) wf_Ses_15 rfl (hF 8 x rfl hx) rfl (hL2 (8, x) 1 (1, 0) rfl rfl hx) (mz_getRN (k := 1) (a := (6, 0)) cl_1 d_Ses_changeDirectory_22 (by decide) wf_Ses_143 rfl (hF 1 0 rfl (by decide)) rfl (hL2 (1, 0) 1 (6, 0) rfl rfl (by decide)) (mz_aload_n d_Ses_changeDirectory_25 rfl (mz_getI (k := 0) cl_4 d_Ses_changeDirectory_26 (by decide) wf_Ses_9 rfl (hF 8 x rfl hx) rfl (mz_aload_n d_Ses_changeDirectory_29 rfl (mz_getI (k := 12) cl_4 d_Ses_changeDirectory_30 (by decide) wf_Ses_56 rfl (hF 8 x rfl hx) rfl (match (hq3.1 hc11) with | ⟨j8, h9, h10, h7⟩ => mz_iast j8 d_Ses_changeDirectory_33 (hF 6 0 rfl (by decide)) rfl h9 h10 (let M5 : MzM := mz_si M1 (6, 0) j8 (mz_i M1 (8, x) 12); (mz_sipush (250 : Int32) d_Ses_changeDirectory_34 (by decide) (mz_iret .int d_Ses_changeDirectory_37 rfl rfl ⟨rfl, hL2, _, rfl, (h7 M5 rfl)⟩)))))))))))) (fun hc11 => (mz_sipush (550 : Int32) d_Ses_changeDirectory_14 (by decide) (mz_iret .int d_Ses_changeDirectory_17 rfl rfl ⟨rfl, hL2, _, rfl, (hq3.2 hc11)⟩))))⟩))))))))
def mm_Store_isFile : MzT := (⟨"ParcelLine$Store", "isFile", "(I)Z"⟩, prog_12_method_3_code, 2, (Option.some Jvm.ClassFile.FieldType.boolean))
theorem cs_Store_isFile {mm : MzT} : mzCall mm mm_Store_isFile 1 := ⟨wn_Store, wco_Store_isFile, by decide +kernel, by decide⟩
theorem d_Store_isFile_0 : decode mm_Store_isFile.2.1 0 = .ok (.iload_n 1, 1) := by decide +kernel
theorem d_Store_isFile_1 : decode mm_Store_isFile.2.1 1 = .ok (.ifCond .lt 26, 3) := by decide +kernel
theorem d_Store_isFile_4 : decode mm_Store_isFile.2.1 4 = .ok (.iload_n 1, 1) := by decide +kernel
theorem d_Store_isFile_5 : decode mm_Store_isFile.2.1 5 = .ok (.bipush 16, 2) := by decide +kernel
theorem d_Store_isFile_7 : decode mm_Store_isFile.2.1 7 = .ok (.if_icmp .ge 20, 3) := by decide +kernel
theorem d_Store_isFile_10 : decode mm_Store_isFile.2.1 10 = .ok (.aload_n 0, 1) := by decide +kernel
theorem d_Store_isFile_11 : decode mm_Store_isFile.2.1 11 = .ok (.getfield 11, 3) := by decide +kernel
theorem d_Store_isFile_14 : decode mm_Store_isFile.2.1 14 = .ok (.iload_n 1, 1) := by decide +kernel
theorem d_Store_isFile_15 : decode mm_Store_isFile.2.1 15 = .ok (.aaload, 1) := by decide +kernel
theorem d_Store_isFile_16 : decode mm_Store_isFile.2.1 16 = .ok (.getfield 18, 3) := by decide +kernel
theorem d_Store_isFile_19 : decode mm_Store_isFile.2.1 19 = .ok (.iconst 2, 1) := by decide +kernel
theorem d_Store_isFile_20 : decode mm_Store_isFile.2.1 20 = .ok (.if_icmp .ne 7, 3) := by decide +kernel
theorem d_Store_isFile_23 : decode mm_Store_isFile.2.1 23 = .ok (.iconst 1, 1) := by decide +kernel
theorem d_Store_isFile_24 : decode mm_Store_isFile.2.1 24 = .ok (.goto 4, 3) := by decide +kernel
theorem d_Store_isFile_27 : decode mm_Store_isFile.2.1 27 = .ok (.iconst 0, 1) := by decide +kernel
theorem d_Store_isFile_28 : decode mm_Store_isFile.2.1 28 = .ok (.ireturn, 1) := by decide +kernel
def wp_Store_isFile  (a1 : Int32) (M : MzM) (K : Int32 → MzM → Prop) : Prop := ((a1 < 0 → K (0 : Int32) M) ∧ (¬ a1 < 0 → (((16 : Int32) ≤ a1 → K (0 : Int32) M) ∧ (¬ (16 : Int32) ≤ a1 → (∃ j1 : Nat, a1.toInt = (j1 : Int) ∧ j1 < 16 ∧ ((¬ (mz_i M (3, j1) 1) = (2 : Int32) → K (0 : Int32) M) ∧ ((mz_i M (3, j1) 1) = (2 : Int32) → K (1 : Int32) M)))))))
theorem tm_Store_isFile {G : MzG} {B : MzB} {d : Nat} {K : Int32 → MzM → Prop} (hF : mzLive false B)   {a1 : Int32} {M : MzM} (hL : mzLnk false M) (h : wp_Store_isFile  a1 M K) : MzC G B d mm_Store_isFile [.ref (mz_ad B (1, 0)), .int a1] M (0, 0) (mzK1 false B K) := by
  unfold wp_Store_isFile at h
  exact MzC.of rfl (Nat.le_of_ble_eq_true rfl) (show MzS G B d mm_Store_isFile M (0, 0) (mzK1 false B K) 0 [(0, .ref (mz_ad B (1, 0))), (1, .int a1)] [] from (mz_iload_n d_Store_isFile_0 rfl (mz_if_lt 27 d_Store_isFile_1 rfl (fun hc7 => (mz_iconst (0 : Int32) d_Store_isFile_27 (by decide) (mz_iret .boolean d_Store_isFile_28 rfl rfl ⟨rfl, hL, _, rfl, (h.1 hc7)⟩))) (fun hc7 => (mz_iload_n d_Store_isFile_4 rfl (mz_bipush (16 : Int32) d_Store_isFile_5 (by decide) (mz_icmp_ge 27 d_Store_isFile_7 rfl (fun hc6 => (mz_iconst (0 : Int32) d_Store_isFile_27 (by decide) (mz_iret .boolean d_Store_isFile_28 rfl rfl ⟨rfl, hL, _, rfl, ((h.2 hc7).1 hc6)⟩))) (fun hc6 => (mz_aload_n d_Store_isFile_10 rfl (mz_getR (k := 0) (a := (2, 0)) cl_1 d_Store_isFile_11 (by decide) wf_Store_11 rfl (hF 1 0 rfl (by decide)) rfl (hL (1, 0) 0 (2, 0) rfl rfl (by decide)) (mz_iload_n d_Store_isFile_14 rfl (match ((h.2 hc7).2 hc6) with | ⟨j1, h2, h3, h4⟩ => mz_aald (a := (3, j1)) j1 d_Store_isFile_15 (hF 2 0 rfl (by decide)) rfl h2 h3 (hL (2, 0) j1 (3, j1) rfl (mzLk_2 h3) (by decide)) (mz_getIN (k := 1) cl_2 d_Store_isFile_16 (by decide) wf_Store_18 rfl (hF 3 j1 rfl h3) rfl (mz_iconst (2 : Int32) d_Store_isFile_19 (by decide) (mz_icmp_ne 27 d_Store_isFile_20 rfl (fun hc5 => (mz_iconst (0 : Int32) d_Store_isFile_27 (by decide) (mz_iret .boolean d_Store_isFile_28 rfl rfl ⟨rfl, hL, _, rfl, (h4.1 hc5)⟩))) (fun hc5 => (mz_iconst (1 : Int32) d_Store_isFile_23 (by decide) (mz_goto 28 d_Store_isFile_24 rfl (mz_iret .boolean d_Store_isFile_28 rfl rfl ⟨rfl, hL, _, rfl, (h4.2 hc5)⟩)))))))))))))))))))
def mm_Ses_tellSize : MzT := (⟨"ParcelLine$Session", "tellSize", "()I"⟩, prog_11_method_23_code, 1, (Option.some Jvm.ClassFile.FieldType.int))
theorem cs_Ses_tellSize {mm : MzT} : mzCall mm mm_Ses_tellSize 0 := ⟨wn_Ses, wco_Ses_tellSize, by decide +kernel, by decide⟩
theorem d_Ses_tellSize_0 : decode mm_Ses_tellSize.2.1 0 = .ok (.aload_n 0, 1) := by decide +kernel
theorem d_Ses_tellSize_1 : decode mm_Ses_tellSize.2.1 1 = .ok (.getfield 15, 3) := by decide +kernel
theorem d_Ses_tellSize_4 : decode mm_Ses_tellSize.2.1 4 = .ok (.aload_n 0, 1) := by decide +kernel
theorem d_Ses_tellSize_5 : decode mm_Ses_tellSize.2.1 5 = .ok (.getfield 56, 3) := by decide +kernel
theorem d_Ses_tellSize_8 : decode mm_Ses_tellSize.2.1 8 = .ok (.invokevirtual 332, 3) := by decide +kernel
theorem d_Ses_tellSize_11 : decode mm_Ses_tellSize.2.1 11 = .ok (.ifCond .ne 7, 3) := by decide +kernel
theorem d_Ses_tellSize_14 : decode mm_Ses_tellSize.2.1 14 = .ok (.sipush 550, 3) := by decide +kernel
theorem d_Ses_tellSize_17 : decode mm_Ses_tellSize.2.1 17 = .ok (.ireturn, 1) := by decide +kernel
theorem d_Ses_tellSize_18 : decode mm_Ses_tellSize.2.1 18 = .ok (.aload_n 0, 1) := by decide +kernel
theorem d_Ses_tellSize_19 : decode mm_Ses_tellSize.2.1 19 = .ok (.aload_n 0, 1) := by decide +kernel
theorem d_Ses_tellSize_20 : decode mm_Ses_tellSize.2.1 20 = .ok (.getfield 15, 3) := by decide +kernel
theorem d_Ses_tellSize_23 : decode mm_Ses_tellSize.2.1 23 = .ok (.getfield 190, 3) := by decide +kernel
theorem d_Ses_tellSize_26 : decode mm_Ses_tellSize.2.1 26 = .ok (.aload_n 0, 1) := by decide +kernel
theorem d_Ses_tellSize_27 : decode mm_Ses_tellSize.2.1 27 = .ok (.getfield 56, 3) := by decide +kernel
theorem d_Ses_tellSize_30 : decode mm_Ses_tellSize.2.1 30 = .ok (.aaload, 1) := by decide +kernel
theorem d_Ses_tellSize_31 : decode mm_Ses_tellSize.2.1 31 = .ok (.getfield 335, 3) := by decide +kernel
theorem d_Ses_tellSize_34 : decode mm_Ses_tellSize.2.1 34 = .ok (.getfield 339, 3) := by decide +kernel
theorem d_Ses_tellSize_37 : decode mm_Ses_tellSize.2.1 37 = .ok (.putfield 175, 3) := by decide +kernel
theorem d_Ses_tellSize_40 : decode mm_Ses_tellSize.2.1 40 = .ok (.sipush 213, 3) := by decide +kernel
theorem d_Ses_tellSize_43 : decode mm_Ses_tellSize.2.1 43 = .ok (.ireturn, 1) := by decide +kernel
def wp_Ses_tellSize (x : Nat)  (M : MzM) (K : Int32 → MzM → Prop) : Prop := wp_Store_isFile  (mz_i M (8, x) 12) M (fun v4 M1 => ((¬ v4 = 0 → (∃ j5 : Nat, (mz_i M1 (8, x) 12).toInt = (j5 : Int) ∧ j5 < 16 ∧ (∀ M9 : MzM, M9 = mz_si M1 (8, x) 14 (mz_i M1 (4, j5) 1) → K (213 : Int32) M9))) ∧ (v4 = 0 → K (550 : Int32) M1)))
theorem tm_Ses_tellSize {G : MzG} {B : MzB} {d : Nat} {K : Int32 → MzM → Prop} (hF : mzLive false B) {x : Nat} (hx : x < 2)  {M : MzM} (hL : mzLnk false M) (h : wp_Ses_tellSize x  M K) : MzC G B (d + 1) mm_Ses_tellSize [.ref (mz_ad B (8, x))] M (0, 0) (mzK1 false B K) := by
  unfold wp_Ses_tellSize at h
  exact MzC.of rfl (Nat.le_of_ble_eq_true rfl) (show MzS G B (d + 1) mm_Ses_tellSize M (0, 0) (mzK1 false B K) 0 [(0, .ref (mz_ad B (8, x)))] [] from (mz_aload_n d_Ses_tellSize_0 rfl (mz_getR (k := 1) (a := (1, 0)) cl_4 d_Ses_tellSize_1 (by decide) wf_Ses_15 rfl (hF 8 x rfl hx) rfl (hL (8, x) 1 (1, 0) rfl rfl hx) (mz_aload_n d_Ses_tellSize_4 rfl (mz_getI (k := 12) cl_4 d_Ses_tellSize_5 (by decide) wf_Ses_56 rfl (hF 8 x rfl hx) rfl (mz_callV (As := [.int (mz_i M (8, x) 12)]) (st := []) (hF 1 0 rfl (by decide)) rfl (mzClOf cl_1) 0 0 d_Ses_tellSize_8 cs_Store_isFile wl_Ses_332 wi_Store_isFile wse_Store_isFile (Nat.le_of_ble_eq_true rfl) (Nat.zero_le _) (Nat.zero_le _) (MzC.mono (tm_Store_isFile (d := d) hF  hL h) (fun r9 B9 M1 hq3 => by obtain ⟨rfl, hL2, v4, rfl, hq3⟩ := hq3; exact ⟨_, rfl, (mz_if_ne 18 d_Ses_tellSize_11 rfl (fun hc10 => (mz_aload_n d_Ses_tellSize_18 rfl (mz_aload_n d_Ses_tellSize_19 rfl (mz_getR (k := 1) (a := (1, 0)) cl_4 d_Ses_tellSize_20 (by decide) wf_Ses_15 rfl (hF 8 x rfl hx) rfl (hL2 (8, x) 1 (1, 0) rfl rfl hx) (mz_getRN (k := 0) (a := (2, 0)) cl_1 d_Ses_tellSize_23 (by decide) wf_Ses_190 rfl (hF 1 0 rfl (by decide)) rfl (hL2 (1, 0) 0 (2, 0) rfl rfl (by decide)) (mz_aload_n d_Ses_tellSize_26 rfl (mz_getI (k := 12) cl_4 d_Ses_tellSize_27 (by decide) wf_Ses_56 rfl (hF 8 x rfl hx) rfl (match (hq3.1 hc10) with | ⟨j5, h6, h7, h8⟩ => mz_aald (a := (3, j5)) j5 d_Ses_tellSize_30 (hF 2 0 rfl (by decide)) rfl h6 h7 (hL2 (2, 0) j5 (3, j5) rfl (mzLk_2 h7) (by decide)) (mz_getRN (k := 0) (a := (4, j5)) cl_2 d_Ses_tellSize_31 (by decide) wf_Ses_335 rfl (hF 3 j5 rfl h7) rfl (hL2 (3, j5) 0 (4, j5) rfl rfl h7) (mz_getIN (k := 1) cl_3 d_Ses_tellSize_34 (by decide) wf_Ses_339 rfl (hF 4 j5 rfl h7) rfl (mz_putI (k := 14) cl_4 d_Ses_tellSize_37 (by decide) wf_Ses_175 rfl rfl rfl rfl (hF 8 x rfl hx) rfl (let M9 : MzM := mz_si M1 (8, x) 14 (mz_i M1 (4, j5) 1); (mz_sipush (213 : Int32) d_Ses_tellSize_40 (by decide) (mz_iret .int d_Ses_tellSize_43 rfl rfl ⟨rfl, hL2, _, rfl, (h8 M9 rfl)⟩)))))))))))))) (fun hc10 => (mz_sipush (550 : Int32) d_Ses_tellSize_14 (by decide) (mz_iret .int d_Ses_tellSize_17 rfl rfl ⟨rfl, hL2, _, rfl, (hq3.2 hc10)⟩))))⟩))))))))
def mm_Row_at : MzT := (⟨"ParcelLine$ByteRow", "at", "(I)I"⟩, prog_3_method_3_code, 2, (Option.some Jvm.ClassFile.FieldType.int))
theorem cs_Row_at {mm : MzT} : mzCall mm mm_Row_at 1 := ⟨wn_Row, wco_Row_at, by decide +kernel, by decide⟩
theorem d_Row_at_0 : decode mm_Row_at.2.1 0 = .ok (.iload_n 1, 1) := by decide +kernel
theorem d_Row_at_1 : decode mm_Row_at.2.1 1 = .ok (.ifCond .lt 26, 3) := by decide +kernel
theorem d_Row_at_4 : decode mm_Row_at.2.1 4 = .ok (.iload_n 1, 1) := by decide +kernel
theorem d_Row_at_5 : decode mm_Row_at.2.1 5 = .ok (.aload_n 0, 1) := by decide +kernel
theorem d_Row_at_6 : decode mm_Row_at.2.1 6 = .ok (.getfield 15, 3) := by decide +kernel
theorem d_Row_at_9 : decode mm_Row_at.2.1 9 = .ok (.if_icmp .ge 18, 3) := by decide +kernel
theorem d_Row_at_12 : decode mm_Row_at.2.1 12 = .ok (.iload_n 1, 1) := by decide +kernel
theorem d_Row_at_13 : decode mm_Row_at.2.1 13 = .ok (.bipush 24, 2) := by decide +kernel
theorem d_Row_at_15 : decode mm_Row_at.2.1 15 = .ok (.if_icmp .ge 12, 3) := by decide +kernel
theorem d_Row_at_18 : decode mm_Row_at.2.1 18 = .ok (.aload_n 0, 1) := by decide +kernel
theorem d_Row_at_19 : decode mm_Row_at.2.1 19 = .ok (.getfield 9, 3) := by decide +kernel
theorem d_Row_at_22 : decode mm_Row_at.2.1 22 = .ok (.iload_n 1, 1) := by decide +kernel
theorem d_Row_at_23 : decode mm_Row_at.2.1 23 = .ok (.iaload, 1) := by decide +kernel
theorem d_Row_at_24 : decode mm_Row_at.2.1 24 = .ok (.goto 4, 3) := by decide +kernel
theorem d_Row_at_27 : decode mm_Row_at.2.1 27 = .ok (.iconst (-1), 1) := by decide +kernel
theorem d_Row_at_28 : decode mm_Row_at.2.1 28 = .ok (.ireturn, 1) := by decide +kernel
def wp_Row_at (n : Nat) (a1 : Int32) (M : MzM) (K : Int32 → MzM → Prop) : Prop := ((a1 < 0 → K (-1 : Int32) M) ∧ (¬ a1 < 0 → (((mz_i M (4, n) 1) ≤ a1 → K (-1 : Int32) M) ∧ (¬ (mz_i M (4, n) 1) ≤ a1 → (((24 : Int32) ≤ a1 → K (-1 : Int32) M) ∧ (¬ (24 : Int32) ≤ a1 → (∃ j1 : Nat, a1.toInt = (j1 : Int) ∧ j1 < 24 ∧ K (mz_i M (5, n) j1) M)))))))
theorem tm_Row_at {G : MzG} {B : MzB} {d : Nat} {K : Int32 → MzM → Prop} (hF : mzLive false B) {n : Nat} (hn : n < 16) {a1 : Int32} {M : MzM} (hL : mzLnk false M) (h : wp_Row_at n a1 M K) : MzC G B d mm_Row_at [.ref (mz_ad B (4, n)), .int a1] M (0, 0) (mzK1 false B K) := by
  unfold wp_Row_at at h
  exact MzC.of rfl (Nat.le_of_ble_eq_true rfl) (show MzS G B d mm_Row_at M (0, 0) (mzK1 false B K) 0 [(0, .ref (mz_ad B (4, n))), (1, .int a1)] [] from (mz_iload_n d_Row_at_0 rfl (mz_if_lt 27 d_Row_at_1 rfl (fun hc7 => (mz_iconst (-1 : Int32) d_Row_at_27 (by decide) (mz_iret .int d_Row_at_28 rfl rfl ⟨rfl, hL, _, rfl, (h.1 hc7)⟩))) (fun hc7 => (mz_iload_n d_Row_at_4 rfl (mz_aload_n d_Row_at_5 rfl (mz_getI (k := 1) cl_3 d_Row_at_6 (by decide) wf_Row_15 rfl (hF 4 n rfl hn) rfl (mz_icmp_ge 27 d_Row_at_9 rfl (fun hc6 => (mz_iconst (-1 : Int32) d_Row_at_27 (by decide) (mz_iret .int d_Row_at_28 rfl rfl ⟨rfl, hL, _, rfl, ((h.2 hc7).1 hc6)⟩))) (fun hc6 => (mz_iload_n d_Row_at_12 rfl (mz_bipush (24 : Int32) d_Row_at_13 (by decide) (mz_icmp_ge 27 d_Row_at_15 rfl (fun hc5 => (mz_iconst (-1 : Int32) d_Row_at_27 (by decide) (mz_iret .int d_Row_at_28 rfl rfl ⟨rfl, hL, _, rfl, (((h.2 hc7).2 hc6).1 hc5)⟩))) (fun hc5 => (mz_aload_n d_Row_at_18 rfl (mz_getR (k := 0) (a := (5, n)) cl_3 d_Row_at_19 (by decide) wf_Row_9 rfl (hF 4 n rfl hn) rfl (hL (4, n) 0 (5, n) rfl rfl hn) (mz_iload_n d_Row_at_22 rfl (match (((h.2 hc7).2 hc6).2 hc5) with | ⟨j1, h2, h3, h4⟩ => mz_iald j1 d_Row_at_23 (hF 5 n rfl hn) rfl h2 h3 (mz_goto 28 d_Row_at_24 rfl (mz_iret .int d_Row_at_28 rfl rfl ⟨rfl, hL, _, rfl, h4⟩)))))))))))))))))))
def wp_Row_ats (k : Nat) (a1 : Int32) (M : MzM) (K : Int32 → MzM → Prop) : Prop := ((a1 < 0 → K (-1 : Int32) M) ∧ (¬ a1 < 0 → (((mz_i M (20, k) 1) ≤ a1 → K (-1 : Int32) M) ∧ (¬ (mz_i M (20, k) 1) ≤ a1 → (((24 : Int32) ≤ a1 → K (-1 : Int32) M) ∧ (¬ (24 : Int32) ≤ a1 → (∃ j1 : Nat, a1.toInt = (j1 : Int) ∧ j1 < 24 ∧ K (mz_i M (21, k) j1) M)))))))
theorem tm_Row_ats {G : MzG} {B : MzB} {d : Nat} {K : Int32 → MzM → Prop} (hF : mzLive false B) {k : Nat} (hk : k < 3) {a1 : Int32} {M : MzM} (hL : mzLnk false M) (h : wp_Row_ats k a1 M K) : MzC G B d mm_Row_at [.ref (mz_ad B (20, k)), .int a1] M (0, 0) (mzK1 false B K) := by
  unfold wp_Row_ats at h
  exact MzC.of rfl (Nat.le_of_ble_eq_true rfl) (show MzS G B d mm_Row_at M (0, 0) (mzK1 false B K) 0 [(0, .ref (mz_ad B (20, k))), (1, .int a1)] [] from (mz_iload_n d_Row_at_0 rfl (mz_if_lt 27 d_Row_at_1 rfl (fun hc7 => (mz_iconst (-1 : Int32) d_Row_at_27 (by decide) (mz_iret .int d_Row_at_28 rfl rfl ⟨rfl, hL, _, rfl, (h.1 hc7)⟩))) (fun hc7 => (mz_iload_n d_Row_at_4 rfl (mz_aload_n d_Row_at_5 rfl (mz_getI (k := 1) cl_3 d_Row_at_6 (by decide) wf_Row_15 rfl (hF 20 k rfl hk) rfl (mz_icmp_ge 27 d_Row_at_9 rfl (fun hc6 => (mz_iconst (-1 : Int32) d_Row_at_27 (by decide) (mz_iret .int d_Row_at_28 rfl rfl ⟨rfl, hL, _, rfl, ((h.2 hc7).1 hc6)⟩))) (fun hc6 => (mz_iload_n d_Row_at_12 rfl (mz_bipush (24 : Int32) d_Row_at_13 (by decide) (mz_icmp_ge 27 d_Row_at_15 rfl (fun hc5 => (mz_iconst (-1 : Int32) d_Row_at_27 (by decide) (mz_iret .int d_Row_at_28 rfl rfl ⟨rfl, hL, _, rfl, (((h.2 hc7).2 hc6).1 hc5)⟩))) (fun hc5 => (mz_aload_n d_Row_at_18 rfl (mz_getR (k := 0) (a := (21, k)) cl_3 d_Row_at_19 (by decide) wf_Row_9 rfl (hF 20 k rfl hk) rfl (hL (20, k) 0 (21, k) rfl rfl hk) (mz_iload_n d_Row_at_22 rfl (match (((h.2 hc7).2 hc6).2 hc5) with | ⟨j1, h2, h3, h4⟩ => mz_iald j1 d_Row_at_23 (hF 21 k rfl hk) rfl h2 h3 (mz_goto 28 d_Row_at_24 rfl (mz_iret .int d_Row_at_28 rfl rfl ⟨rfl, hL, _, rfl, h4⟩)))))))))))))))))))
def mm_Way_load : MzT := (⟨"ParcelLine$DataWay", "load", "(I)V"⟩, prog_6_method_2_code, 2, (Option.none : Option Jvm.ClassFile.FieldType))
theorem cs_Way_load {mm : MzT} : mzCall mm mm_Way_load 1 := ⟨wn_Way, wco_Way_load, by decide +kernel, by decide⟩
theorem d_Way_load_0 : decode mm_Way_load.2.1 0 = .ok (.aload_n 0, 1) := by decide +kernel
theorem d_Way_load_1 : decode mm_Way_load.2.1 1 = .ok (.getfield 15, 3) := by decide +kernel
theorem d_Way_load_4 : decode mm_Way_load.2.1 4 = .ok (.bipush 75, 2) := by decide +kernel
theorem d_Way_load_6 : decode mm_Way_load.2.1 6 = .ok (.if_icmp .ge 23, 3) := by decide +kernel
theorem d_Way_load_9 : decode mm_Way_load.2.1 9 = .ok (.aload_n 0, 1) := by decide +kernel
theorem d_Way_load_10 : decode mm_Way_load.2.1 10 = .ok (.getfield 9, 3) := by decide +kernel
theorem d_Way_load_13 : decode mm_Way_load.2.1 13 = .ok (.aload_n 0, 1) := by decide +kernel
theorem d_Way_load_14 : decode mm_Way_load.2.1 14 = .ok (.getfield 15, 3) := by decide +kernel
theorem d_Way_load_17 : decode mm_Way_load.2.1 17 = .ok (.iload_n 1, 1) := by decide +kernel
theorem d_Way_load_18 : decode mm_Way_load.2.1 18 = .ok (.iastore, 1) := by decide +kernel
theorem d_Way_load_19 : decode mm_Way_load.2.1 19 = .ok (.aload_n 0, 1) := by decide +kernel
theorem d_Way_load_20 : decode mm_Way_load.2.1 20 = .ok (.dup, 1) := by decide +kernel
theorem d_Way_load_21 : decode mm_Way_load.2.1 21 = .ok (.getfield 15, 3) := by decide +kernel
theorem d_Way_load_24 : decode mm_Way_load.2.1 24 = .ok (.iconst 1, 1) := by decide +kernel
theorem d_Way_load_25 : decode mm_Way_load.2.1 25 = .ok (.iadd, 1) := by decide +kernel
theorem d_Way_load_26 : decode mm_Way_load.2.1 26 = .ok (.putfield 15, 3) := by decide +kernel
theorem d_Way_load_29 : decode mm_Way_load.2.1 29 = .ok (.return_, 1) := by decide +kernel
def wp_Way_load (x : Nat) (a1 : Int32) (M : MzM) (K : MzM → Prop) : Prop := (((75 : Int32) ≤ (mz_i M (16, x) 7) → K M) ∧ (¬ (75 : Int32) ≤ (mz_i M (16, x) 7) → (∃ j4 : Nat, (mz_i M (16, x) 7).toInt = (j4 : Int) ∧ j4 < 75 ∧ ∀ M1 : MzM, M1 = mz_si M (17, x) j4 a1 → (∀ M7 : MzM, M7 = mz_si M1 (16, x) 7 ((mz_i M1 (16, x) 7) + (1 : Int32)) → K M7))))
theorem tm_Way_load {G : MzG} {B : MzB} {d : Nat} {K : MzM → Prop} (hF : mzLive false B) {x : Nat} (hx : x < 2) {a1 : Int32} {M : MzM} (hL : mzLnk false M) (h : wp_Way_load x a1 M K) : MzC G B d mm_Way_load [.ref (mz_ad B (16, x)), .int a1] M (0, 0) (mzK0 false B K) := by
  unfold wp_Way_load at h
  exact MzC.of rfl (Nat.le_of_ble_eq_true rfl) (show MzS G B d mm_Way_load M (0, 0) (mzK0 false B K) 0 [(0, .ref (mz_ad B (16, x))), (1, .int a1)] [] from (mz_aload_n d_Way_load_0 rfl (mz_getI (k := 7) cl_8 d_Way_load_1 (by decide) wf_Way_15 rfl (hF 16 x rfl hx) rfl (mz_bipush (75 : Int32) d_Way_load_4 (by decide) (mz_icmp_ge 29 d_Way_load_6 rfl (fun hc8 => (mz_vret d_Way_load_29 rfl ⟨rfl, hL, rfl, (h.1 hc8)⟩)) (fun hc8 => (mz_aload_n d_Way_load_9 rfl (mz_getR (k := 5) (a := (17, x)) cl_8 d_Way_load_10 (by decide) wf_Way_9 rfl (hF 16 x rfl hx) rfl (hL (16, x) 5 (17, x) rfl rfl hx) (mz_aload_n d_Way_load_13 rfl (mz_getI (k := 7) cl_8 d_Way_load_14 (by decide) wf_Way_15 rfl (hF 16 x rfl hx) rfl (mz_iload_n d_Way_load_17 rfl (match (h.2 hc8) with | ⟨j4, h5, h6, h3⟩ => mz_iast j4 d_Way_load_18 (hF 17 x rfl hx) rfl h5 h6 (let M1 : MzM := mz_si M (17, x) j4 a1; (mz_aload_n d_Way_load_19 rfl (mz_dup d_Way_load_20 rfl (mz_getI (k := 7) cl_8 d_Way_load_21 (by decide) wf_Way_15 rfl (hF 16 x rfl hx) rfl (mz_iconst (1 : Int32) d_Way_load_24 (by decide) (mz_iadd d_Way_load_25 (mz_putI (k := 7) cl_8 d_Way_load_26 (by decide) wf_Way_15 rfl rfl rfl rfl (hF 16 x rfl hx) rfl (let M7 : MzM := mz_si M1 (16, x) 7 ((mz_i M1 (16, x) 7) + (1 : Int32)); (mz_vret d_Way_load_29 rfl ⟨rfl, hL, rfl, ((h3 M1 rfl) M7 rfl)⟩)))))))))))))))))))))
def mm_Way_sendFile : MzT := (⟨"ParcelLine$DataWay", "sendFile", "(LParcelLine$Node;IZ)V"⟩, prog_6_method_3_code, 6, (Option.none : Option Jvm.ClassFile.FieldType))
theorem cs_Way_sendFile {mm : MzT} : mzCall mm mm_Way_sendFile 3 := ⟨wn_Way, wco_Way_sendFile, by decide +kernel, by decide⟩
theorem d_Way_sendFile_0 : decode mm_Way_sendFile.2.1 0 = .ok (.aload_n 0, 1) := by decide +kernel
theorem d_Way_sendFile_1 : decode mm_Way_sendFile.2.1 1 = .ok (.iconst 1, 1) := by decide +kernel
theorem d_Way_sendFile_2 : decode mm_Way_sendFile.2.1 2 = .ok (.putfield 19, 3) := by decide +kernel
theorem d_Way_sendFile_5 : decode mm_Way_sendFile.2.1 5 = .ok (.aload_n 0, 1) := by decide +kernel
theorem d_Way_sendFile_6 : decode mm_Way_sendFile.2.1 6 = .ok (.aload_n 1, 1) := by decide +kernel
theorem d_Way_sendFile_7 : decode mm_Way_sendFile.2.1 7 = .ok (.putfield 22, 3) := by decide +kernel
theorem d_Way_sendFile_10 : decode mm_Way_sendFile.2.1 10 = .ok (.aload_n 1, 1) := by decide +kernel
theorem d_Way_sendFile_11 : decode mm_Way_sendFile.2.1 11 = .ok (.dup, 1) := by decide +kernel
theorem d_Way_sendFile_12 : decode mm_Way_sendFile.2.1 12 = .ok (.getfield 26, 3) := by decide +kernel
theorem d_Way_sendFile_15 : decode mm_Way_sendFile.2.1 15 = .ok (.iconst 1, 1) := by decide +kernel
theorem d_Way_sendFile_16 : decode mm_Way_sendFile.2.1 16 = .ok (.iadd, 1) := by decide +kernel
theorem d_Way_sendFile_17 : decode mm_Way_sendFile.2.1 17 = .ok (.putfield 26, 3) := by decide +kernel
theorem d_Way_sendFile_20 : decode mm_Way_sendFile.2.1 20 = .ok (.iload_n 2, 1) := by decide +kernel
theorem d_Way_sendFile_21 : decode mm_Way_sendFile.2.1 21 = .ok (.istore 4, 2) := by decide +kernel
theorem d_Way_sendFile_23 : decode mm_Way_sendFile.2.1 23 = .ok (.iload 4, 2) := by decide +kernel
theorem d_Way_sendFile_25 : decode mm_Way_sendFile.2.1 25 = .ok (.aload_n 1, 1) := by decide +kernel
theorem d_Way_sendFile_26 : decode mm_Way_sendFile.2.1 26 = .ok (.getfield 31, 3) := by decide +kernel
theorem d_Way_sendFile_29 : decode mm_Way_sendFile.2.1 29 = .ok (.getfield 35, 3) := by decide +kernel
theorem d_Way_sendFile_32 : decode mm_Way_sendFile.2.1 32 = .ok (.if_icmp .ge 43, 3) := by decide +kernel
theorem d_Way_sendFile_35 : decode mm_Way_sendFile.2.1 35 = .ok (.aload_n 1, 1) := by decide +kernel
theorem d_Way_sendFile_36 : decode mm_Way_sendFile.2.1 36 = .ok (.getfield 31, 3) := by decide +kernel
theorem d_Way_sendFile_39 : decode mm_Way_sendFile.2.1 39 = .ok (.iload 4, 2) := by decide +kernel
theorem d_Way_sendFile_41 : decode mm_Way_sendFile.2.1 41 = .ok (.invokevirtual 40, 3) := by decide +kernel
theorem d_Way_sendFile_44 : decode mm_Way_sendFile.2.1 44 = .ok (.istore 5, 2) := by decide +kernel
theorem d_Way_sendFile_46 : decode mm_Way_sendFile.2.1 46 = .ok (.iload_n 3, 1) := by decide +kernel
theorem d_Way_sendFile_47 : decode mm_Way_sendFile.2.1 47 = .ok (.ifCond .eq 16, 3) := by decide +kernel
theorem d_Way_sendFile_50 : decode mm_Way_sendFile.2.1 50 = .ok (.iload 5, 2) := by decide +kernel
theorem d_Way_sendFile_52 : decode mm_Way_sendFile.2.1 52 = .ok (.bipush 10, 2) := by decide +kernel
theorem d_Way_sendFile_54 : decode mm_Way_sendFile.2.1 54 = .ok (.if_icmp .ne 9, 3) := by decide +kernel
theorem d_Way_sendFile_57 : decode mm_Way_sendFile.2.1 57 = .ok (.aload_n 0, 1) := by decide +kernel
theorem d_Way_sendFile_58 : decode mm_Way_sendFile.2.1 58 = .ok (.bipush 13, 2) := by decide +kernel
theorem d_Way_sendFile_60 : decode mm_Way_sendFile.2.1 60 = .ok (.invokevirtual 44, 3) := by decide +kernel
theorem d_Way_sendFile_63 : decode mm_Way_sendFile.2.1 63 = .ok (.aload_n 0, 1) := by decide +kernel
theorem d_Way_sendFile_64 : decode mm_Way_sendFile.2.1 64 = .ok (.iload 5, 2) := by decide +kernel
theorem d_Way_sendFile_66 : decode mm_Way_sendFile.2.1 66 = .ok (.invokevirtual 44, 3) := by decide +kernel
theorem d_Way_sendFile_69 : decode mm_Way_sendFile.2.1 69 = .ok (.iinc 4 1, 3) := by decide +kernel
theorem d_Way_sendFile_72 : decode mm_Way_sendFile.2.1 72 = .ok (.goto (-49), 3) := by decide +kernel
theorem d_Way_sendFile_75 : decode mm_Way_sendFile.2.1 75 = .ok (.return_, 1) := by decide +kernel
def wp_Way_sendFile_63 (x : Nat) (p1 : Nat) (H23 : Int32 → Int32 → MzM → Prop) (K : MzM → Prop) (y3 : Int32) (y4 : Int32) (y5 : Int32) (M : MzM) : Prop := wp_Way_load x y5 M (fun M17 => H23 y3 (y4 + (1 : Int32)) M17)
def wp_Way_sendFile_23 (x : Nat) (p1 : Nat)  (K : MzM → Prop) : Nat → Int32 → Int32 → MzM → Prop
  | 0, _, _, _ => False
  | r0 + 1, y3, y4, M => (((mz_i M (4, p1) 1) ≤ y4 → K M) ∧ (¬ (mz_i M (4, p1) 1) ≤ y4 → wp_Row_at p1 y4 M (fun v10 M7 => ((y3 = 0 → wp_Way_sendFile_63 x p1 (wp_Way_sendFile_23 x p1  K r0) K y3 y4 v10 M7) ∧ (¬ y3 = 0 → ((¬ v10 = (10 : Int32) → wp_Way_sendFile_63 x p1 (wp_Way_sendFile_23 x p1  K r0) K y3 y4 v10 M7) ∧ (v10 = (10 : Int32) → wp_Way_load x (13 : Int32) M7 (fun M11 => wp_Way_sendFile_63 x p1 (wp_Way_sendFile_23 x p1  K r0) K y3 y4 v10 M11))))))))
def wp_Way_sendFile (x : Nat) (p1 : Nat) (a2 : Int32) (a3 : Int32) (M : MzM) (K : MzM → Prop) : Prop := (∀ M1 : MzM, M1 = mz_si M (16, x) 1 (1 : Int32) → (∀ M2 : MzM, M2 = mz_sr M1 (16, x) 4 (some (3, p1)) → (∀ M4 : MzM, M4 = mz_si M2 (3, p1) 4 ((mz_i M2 (3, p1) 4) + (1 : Int32)) → (∃ r5 : Nat, wp_Way_sendFile_23 x p1  K r5 a3 a2 M4))))
theorem tm_Way_sendFile_63 {G : MzG} {B : MzB} {d : Nat} {K : MzM → Prop} (hF : mzLive false B) {x : Nat} {p1 : Nat} (hx : x < 2) (hp1 : p1 < 16) {H23 : Int32 → Int32 → MzM → Prop} (hH23 : ∀ (y3 : Int32) (y4 : Int32) (M : MzM), mzLnk false M → H23 y3 y4 M → MzS G B (d + 1) mm_Way_sendFile M (0, 0) (mzK0 false B K) 23 [(0, .ref (mz_ad B (16, x))), (1, .ref (mz_ad B (3, p1))), (3, .int y3), (4, .int y4)] []) (y3 : Int32) (y4 : Int32) (y5 : Int32) (M : MzM) (hL : mzLnk false M) (h : wp_Way_sendFile_63 x p1 H23 K y3 y4 y5 M) : MzS G B (d + 1) mm_Way_sendFile M (0, 0) (mzK0 false B K) 63 [(0, .ref (mz_ad B (16, x))), (1, .ref (mz_ad B (3, p1))), (3, .int y3), (4, .int y4), (5, .int y5)] [] := by
  unfold wp_Way_sendFile_63 at h
  exact (mz_aload_n d_Way_sendFile_63 rfl (mz_iload d_Way_sendFile_64 rfl (mz_callV (As := [.int y5]) (st := []) (hF 16 x rfl hx) rfl (mzClOf cl_8) 0 0 d_Way_sendFile_66 cs_Way_load wl_Way_44 wi_Way_load wse_Way_load (Nat.le_of_ble_eq_true rfl) (Nat.zero_le _) (Nat.zero_le _) (MzC.mono (tm_Way_load (d := d) hF hx hL h) (fun r9 B9 M17 hq19 => by obtain ⟨rfl, hL18, rfl, hq19⟩ := hq19; exact ⟨none, rfl, (mz_iinc (y4 + (1 : Int32)) d_Way_sendFile_69 rfl (by decide) rfl (mz_goto 23 d_Way_sendFile_72 rfl (MzS.loc [(0, .ref (mz_ad B (16, x))), (1, .ref (mz_ad B (3, p1))), (3, .int y3), (4, .int (y4 + (1 : Int32)))] ⟨rfl, rfl, rfl, rfl, trivial⟩ (hH23 y3 (y4 + (1 : Int32)) M17 hL18 hq19))))⟩)))))
theorem tm_Way_sendFile_23 {G : MzG} {B : MzB} {d : Nat} {K : MzM → Prop} (hF : mzLive false B) {x : Nat} {p1 : Nat} (hx : x < 2) (hp1 : p1 < 16)   : ∀ (r0 : Nat) (y3 : Int32) (y4 : Int32) (M : MzM), mzLnk false M → wp_Way_sendFile_23 x p1  K r0 y3 y4 M → MzS G B (d + 1) mm_Way_sendFile M (0, 0) (mzK0 false B K) 23 [(0, .ref (mz_ad B (16, x))), (1, .ref (mz_ad B (3, p1))), (3, .int y3), (4, .int y4)] [] := by
  intro r0
  induction r0 with
  | zero => intro y3 y4 M hL h; exact False.elim h
  | succ r0 hH23 =>
    intro y3 y4 M hL h
    unfold wp_Way_sendFile_23 at h
    exact (mz_iload d_Way_sendFile_23 rfl (mz_aload_n d_Way_sendFile_25 rfl (mz_getRN (k := 0) (a := (4, p1)) cl_2 d_Way_sendFile_26 (by decide) wf_Way_31 rfl (hF 3 p1 rfl hp1) rfl (hL (3, p1) 0 (4, p1) rfl rfl hp1) (mz_getIN (k := 1) cl_3 d_Way_sendFile_29 (by decide) wf_Way_35 rfl (hF 4 p1 rfl hp1) rfl (mz_icmp_ge 75 d_Way_sendFile_32 rfl (fun hc16 => (mz_vret d_Way_sendFile_75 rfl ⟨rfl, hL, rfl, (h.1 hc16)⟩)) (fun hc16 => (mz_aload_n d_Way_sendFile_35 rfl (mz_getRN (k := 0) (a := (4, p1)) cl_2 d_Way_sendFile_36 (by decide) wf_Way_31 rfl (hF 3 p1 rfl hp1) rfl (hL (3, p1) 0 (4, p1) rfl rfl hp1) (mz_iload d_Way_sendFile_39 rfl (mz_callV (As := [.int y4]) (st := []) (hF 4 p1 rfl hp1) rfl (mzClOf cl_3) 0 0 d_Way_sendFile_41 cs_Row_at wl_Way_40 wi_Row_at wse_Row_at (Nat.le_of_ble_eq_true rfl) (Nat.zero_le _) (Nat.zero_le _) (MzC.mono (tm_Row_at (d := d) hF hp1 hL (h.2 hc16)) (fun r9 B9 M7 hq9 => by obtain ⟨rfl, hL8, v10, rfl, hq9⟩ := hq9; exact ⟨_, rfl, (mz_istore d_Way_sendFile_44 (by decide) (mz_iload_n d_Way_sendFile_46 rfl (mz_if_eq 63 d_Way_sendFile_47 rfl (fun hc15 => (MzS.loc [(0, .ref (mz_ad B (16, x))), (1, .ref (mz_ad B (3, p1))), (3, .int y3), (4, .int y4), (5, .int v10)] ⟨rfl, rfl, rfl, rfl, rfl, trivial⟩ (tm_Way_sendFile_63 hF hx hp1 hH23 y3 y4 v10 M7 hL8 (hq9.1 hc15)))) (fun hc15 => (mz_iload d_Way_sendFile_50 rfl (mz_bipush (10 : Int32) d_Way_sendFile_52 (by decide) (mz_icmp_ne 63 d_Way_sendFile_54 rfl (fun hc14 => (MzS.loc [(0, .ref (mz_ad B (16, x))), (1, .ref (mz_ad B (3, p1))), (3, .int y3), (4, .int y4), (5, .int v10)] ⟨rfl, rfl, rfl, rfl, rfl, trivial⟩ (tm_Way_sendFile_63 hF hx hp1 hH23 y3 y4 v10 M7 hL8 ((hq9.2 hc15).1 hc14)))) (fun hc14 => (mz_aload_n d_Way_sendFile_57 rfl (mz_bipush (13 : Int32) d_Way_sendFile_58 (by decide) (mz_callV (As := [.int (13 : Int32)]) (st := []) (hF 16 x rfl hx) rfl (mzClOf cl_8) 0 0 d_Way_sendFile_60 cs_Way_load wl_Way_44 wi_Way_load wse_Way_load (Nat.le_of_ble_eq_true rfl) (Nat.zero_le _) (Nat.zero_le _) (MzC.mono (tm_Way_load (d := d) hF hx hL8 ((hq9.2 hc15).2 hc14)) (fun r9 B9 M11 hq13 => by obtain ⟨rfl, hL12, rfl, hq13⟩ := hq13; exact ⟨none, rfl, (MzS.loc [(0, .ref (mz_ad B (16, x))), (1, .ref (mz_ad B (3, p1))), (3, .int y3), (4, .int y4), (5, .int v10)] ⟨rfl, rfl, rfl, rfl, rfl, trivial⟩ (tm_Way_sendFile_63 hF hx hp1 hH23 y3 y4 v10 M11 hL12 hq13))⟩)))))))))))))⟩))))))))))))
theorem tm_Way_sendFile {G : MzG} {B : MzB} {d : Nat} {K : MzM → Prop} (hF : mzLive false B) {x : Nat} {p1 : Nat} (hx : x < 2) (hp1 : p1 < 16) {a2 : Int32} {a3 : Int32} {M : MzM} (hL : mzLnk false M) (h : wp_Way_sendFile x p1 a2 a3 M K) : MzC G B (d + 1) mm_Way_sendFile [.ref (mz_ad B (16, x)), .ref (mz_ad B (3, p1)), .int a2, .int a3] M (0, 0) (mzK0 false B K) := by
  unfold wp_Way_sendFile at h
  exact MzC.of rfl (Nat.le_of_ble_eq_true rfl) (show MzS G B (d + 1) mm_Way_sendFile M (0, 0) (mzK0 false B K) 0 [(0, .ref (mz_ad B (16, x))), (1, .ref (mz_ad B (3, p1))), (2, .int a2), (3, .int a3)] [] from (mz_aload_n d_Way_sendFile_0 rfl (mz_iconst (1 : Int32) d_Way_sendFile_1 (by decide) (mz_putI (k := 1) cl_8 d_Way_sendFile_2 (by decide) wf_Way_19 rfl rfl rfl rfl (hF 16 x rfl hx) rfl (let M1 : MzM := mz_si M (16, x) 1 (1 : Int32); (mz_aload_n d_Way_sendFile_5 rfl (mz_aload_n d_Way_sendFile_6 rfl (mz_putR (k := 4) (x := (some (3, p1))) cl_8 d_Way_sendFile_7 (by decide) wf_Way_22 rfl rfl rfl rfl (hF 16 x rfl hx) rfl (have hL3 := mzLnk.sr (k := 4) (x := (some (3, p1))) (i := (16, x)) hL rfl; let M2 : MzM := mz_sr M1 (16, x) 4 (some (3, p1)); (mz_aload_n d_Way_sendFile_10 rfl (mz_dup d_Way_sendFile_11 rfl (mz_getIN (k := 4) cl_2 d_Way_sendFile_12 (by decide) wf_Way_26 rfl (hF 3 p1 rfl hp1) rfl (mz_iconst (1 : Int32) d_Way_sendFile_15 (by decide) (mz_iadd d_Way_sendFile_16 (mz_putIN (k := 4) cl_2 d_Way_sendFile_17 (by decide) wf_Way_26 rfl rfl rfl rfl (hF 3 p1 rfl hp1) rfl (let M4 : MzM := mz_si M2 (3, p1) 4 ((mz_i M2 (3, p1) 4) + (1 : Int32)); (mz_iload_n d_Way_sendFile_20 rfl (mz_istore d_Way_sendFile_21 (by decide) (MzS.loc [(0, .ref (mz_ad B (16, x))), (1, .ref (mz_ad B (3, p1))), (3, .int a3), (4, .int a2)] ⟨rfl, rfl, rfl, rfl, trivial⟩ (match (((h M1 rfl) M2 rfl) M4 rfl) with | ⟨r5, h6⟩ => tm_Way_sendFile_23 hF hx hp1  r5 a3 a2 M4 hL3 h6))))))))))))))))))))
