def mm_Path_readStep : MzT := (⟨"ParcelLine$Path", "readStep", "([III)I"⟩, prog_9_method_4_code, 6, (Option.some Jvm.ClassFile.FieldType.int))
theorem cs_Path_readStep {mm : MzT} : mzCall mm mm_Path_readStep 3 := ⟨wn_Path, wco_Path_readStep, by decide +kernel, by decide⟩
theorem d_Path_readStep_0 : decode mm_Path_readStep.2.1 0 = .ok (.iload_n 2, 1) := by decide +kernel
theorem d_Path_readStep_1 : decode mm_Path_readStep.2.1 1 = .ok (.iload_n 1, 1) := by decide +kernel
theorem d_Path_readStep_2 : decode mm_Path_readStep.2.1 2 = .ok (.isub, 1) := by decide +kernel
theorem d_Path_readStep_3 : decode mm_Path_readStep.2.1 3 = .ok (.istore_n 3, 1) := by decide +kernel
theorem d_Path_readStep_4 : decode mm_Path_readStep.2.1 4 = .ok (.iload_n 3, 1) := by decide +kernel
theorem d_Path_readStep_5 : decode mm_Path_readStep.2.1 5 = .ok (.iconst 2, 1) := by decide +kernel
theorem d_Path_readStep_6 : decode mm_Path_readStep.2.1 6 = .ok (.if_icmp .ne 23, 3) := by decide +kernel
theorem d_Path_readStep_9 : decode mm_Path_readStep.2.1 9 = .ok (.aload_n 0, 1) := by decide +kernel
theorem d_Path_readStep_10 : decode mm_Path_readStep.2.1 10 = .ok (.iload_n 1, 1) := by decide +kernel
theorem d_Path_readStep_11 : decode mm_Path_readStep.2.1 11 = .ok (.iaload, 1) := by decide +kernel
theorem d_Path_readStep_12 : decode mm_Path_readStep.2.1 12 = .ok (.bipush 46, 2) := by decide +kernel
theorem d_Path_readStep_14 : decode mm_Path_readStep.2.1 14 = .ok (.if_icmp .ne 15, 3) := by decide +kernel
theorem d_Path_readStep_17 : decode mm_Path_readStep.2.1 17 = .ok (.aload_n 0, 1) := by decide +kernel
theorem d_Path_readStep_18 : decode mm_Path_readStep.2.1 18 = .ok (.iload_n 1, 1) := by decide +kernel
theorem d_Path_readStep_19 : decode mm_Path_readStep.2.1 19 = .ok (.iconst 1, 1) := by decide +kernel
theorem d_Path_readStep_20 : decode mm_Path_readStep.2.1 20 = .ok (.iadd, 1) := by decide +kernel
theorem d_Path_readStep_21 : decode mm_Path_readStep.2.1 21 = .ok (.iaload, 1) := by decide +kernel
theorem d_Path_readStep_22 : decode mm_Path_readStep.2.1 22 = .ok (.bipush 46, 2) := by decide +kernel
theorem d_Path_readStep_24 : decode mm_Path_readStep.2.1 24 = .ok (.if_icmp .ne 5, 3) := by decide +kernel
theorem d_Path_readStep_27 : decode mm_Path_readStep.2.1 27 = .ok (.iconst 0, 1) := by decide +kernel
theorem d_Path_readStep_28 : decode mm_Path_readStep.2.1 28 = .ok (.ireturn, 1) := by decide +kernel
theorem d_Path_readStep_29 : decode mm_Path_readStep.2.1 29 = .ok (.iload_n 3, 1) := by decide +kernel
theorem d_Path_readStep_30 : decode mm_Path_readStep.2.1 30 = .ok (.iconst 1, 1) := by decide +kernel
theorem d_Path_readStep_31 : decode mm_Path_readStep.2.1 31 = .ok (.if_icmp .lt 8, 3) := by decide +kernel
theorem d_Path_readStep_34 : decode mm_Path_readStep.2.1 34 = .ok (.iload_n 3, 1) := by decide +kernel
theorem d_Path_readStep_35 : decode mm_Path_readStep.2.1 35 = .ok (.iconst 3, 1) := by decide +kernel
theorem d_Path_readStep_36 : decode mm_Path_readStep.2.1 36 = .ok (.if_icmp .le 5, 3) := by decide +kernel
theorem d_Path_readStep_39 : decode mm_Path_readStep.2.1 39 = .ok (.iconst (-1), 1) := by decide +kernel
theorem d_Path_readStep_40 : decode mm_Path_readStep.2.1 40 = .ok (.ireturn, 1) := by decide +kernel
theorem d_Path_readStep_41 : decode mm_Path_readStep.2.1 41 = .ok (.iconst 0, 1) := by decide +kernel
theorem d_Path_readStep_42 : decode mm_Path_readStep.2.1 42 = .ok (.istore 4, 2) := by decide +kernel
theorem d_Path_readStep_44 : decode mm_Path_readStep.2.1 44 = .ok (.iload_n 2, 1) := by decide +kernel
theorem d_Path_readStep_45 : decode mm_Path_readStep.2.1 45 = .ok (.iconst 1, 1) := by decide +kernel
theorem d_Path_readStep_46 : decode mm_Path_readStep.2.1 46 = .ok (.isub, 1) := by decide +kernel
theorem d_Path_readStep_47 : decode mm_Path_readStep.2.1 47 = .ok (.istore 5, 2) := by decide +kernel
theorem d_Path_readStep_49 : decode mm_Path_readStep.2.1 49 = .ok (.iload 5, 2) := by decide +kernel
theorem d_Path_readStep_51 : decode mm_Path_readStep.2.1 51 = .ok (.iload_n 1, 1) := by decide +kernel
theorem d_Path_readStep_52 : decode mm_Path_readStep.2.1 52 = .ok (.if_icmp .lt 34, 3) := by decide +kernel
theorem d_Path_readStep_55 : decode mm_Path_readStep.2.1 55 = .ok (.aload_n 0, 1) := by decide +kernel
theorem d_Path_readStep_56 : decode mm_Path_readStep.2.1 56 = .ok (.iload 5, 2) := by decide +kernel
theorem d_Path_readStep_58 : decode mm_Path_readStep.2.1 58 = .ok (.iaload, 1) := by decide +kernel
theorem d_Path_readStep_59 : decode mm_Path_readStep.2.1 59 = .ok (.invokestatic 34, 3) := by decide +kernel
theorem d_Path_readStep_62 : decode mm_Path_readStep.2.1 62 = .ok (.ifCond .ne 5, 3) := by decide +kernel
theorem d_Path_readStep_65 : decode mm_Path_readStep.2.1 65 = .ok (.iconst (-1), 1) := by decide +kernel
theorem d_Path_readStep_66 : decode mm_Path_readStep.2.1 66 = .ok (.ireturn, 1) := by decide +kernel
theorem d_Path_readStep_67 : decode mm_Path_readStep.2.1 67 = .ok (.iload 4, 2) := by decide +kernel
theorem d_Path_readStep_69 : decode mm_Path_readStep.2.1 69 = .ok (.sipush 128, 3) := by decide +kernel
theorem d_Path_readStep_72 : decode mm_Path_readStep.2.1 72 = .ok (.imul, 1) := by decide +kernel
theorem d_Path_readStep_73 : decode mm_Path_readStep.2.1 73 = .ok (.aload_n 0, 1) := by decide +kernel
theorem d_Path_readStep_74 : decode mm_Path_readStep.2.1 74 = .ok (.iload 5, 2) := by decide +kernel
theorem d_Path_readStep_76 : decode mm_Path_readStep.2.1 76 = .ok (.iaload, 1) := by decide +kernel
theorem d_Path_readStep_77 : decode mm_Path_readStep.2.1 77 = .ok (.iadd, 1) := by decide +kernel
theorem d_Path_readStep_78 : decode mm_Path_readStep.2.1 78 = .ok (.istore 4, 2) := by decide +kernel
theorem d_Path_readStep_80 : decode mm_Path_readStep.2.1 80 = .ok (.iinc 5 (-1), 3) := by decide +kernel
theorem d_Path_readStep_83 : decode mm_Path_readStep.2.1 83 = .ok (.goto (-34), 3) := by decide +kernel
theorem d_Path_readStep_86 : decode mm_Path_readStep.2.1 86 = .ok (.iload 4, 2) := by decide +kernel
theorem d_Path_readStep_88 : decode mm_Path_readStep.2.1 88 = .ok (.ireturn, 1) := by decide +kernel
def wp_Path_readStep_49 (x : Nat)  (K : Int32 → MzM → Prop) : Nat → Int32 → Int32 → Int32 → MzM → Prop
  | 0, _, _, _, _ => False
  | r0 + 1, y1, y4, y5, M => ((y5 < y1 → K y4 M) ∧ (¬ y5 < y1 → (∃ j16 : Nat, y5.toInt = (j16 : Int) ∧ j16 < 30 ∧ wp_PL_isNameByte  (mz_i M (13, x) j16) M (fun v23 M20 => ((¬ v23 = 0 → (∃ j24 : Nat, y5.toInt = (j24 : Int) ∧ j24 < 30 ∧ (wp_Path_readStep_49 x  K r0) y1 ((y4 * (128 : Int32)) + (mz_i M20 (13, x) j24)) (y5 + (-1 : Int32)) M20)) ∧ (v23 = 0 → K (-1 : Int32) M20))))))
def wp_Path_readStep_29 (x : Nat)  (K : Int32 → MzM → Prop) (y1 : Int32) (y2 : Int32) (y3 : Int32) (M : MzM) : Prop := ((y3 < (1 : Int32) → K (-1 : Int32) M) ∧ (¬ y3 < (1 : Int32) → ((y3 ≤ (3 : Int32) → (∃ r12 : Nat, wp_Path_readStep_49 x  K r12 y1 (0 : Int32) (y2 - (1 : Int32)) M)) ∧ (¬ y3 ≤ (3 : Int32) → K (-1 : Int32) M))))
def wp_Path_readStep (x : Nat) (a1 : Int32) (a2 : Int32) (M : MzM) (K : Int32 → MzM → Prop) : Prop := ((¬ (a2 - a1) = (2 : Int32) → wp_Path_readStep_29 x  K a1 a2 (a2 - a1) M) ∧ ((a2 - a1) = (2 : Int32) → (∃ j1 : Nat, a1.toInt = (j1 : Int) ∧ j1 < 30 ∧ ((¬ (mz_i M (13, x) j1) = (46 : Int32) → wp_Path_readStep_29 x  K a1 a2 (a2 - a1) M) ∧ ((mz_i M (13, x) j1) = (46 : Int32) → (∃ j5 : Nat, (a1 + (1 : Int32)).toInt = (j5 : Int) ∧ j5 < 30 ∧ ((¬ (mz_i M (13, x) j5) = (46 : Int32) → wp_Path_readStep_29 x  K a1 a2 (a2 - a1) M) ∧ ((mz_i M (13, x) j5) = (46 : Int32) → K (0 : Int32) M))))))))
theorem tm_Path_readStep_49 {G : MzG} {B : MzB} {d : Nat} {K : Int32 → MzM → Prop} (hF : mzLive false B) {x : Nat} (hx : x < 2)   : ∀ (r0 : Nat) (y1 : Int32) (y4 : Int32) (y5 : Int32) (M : MzM), mzLnk false M → wp_Path_readStep_49 x  K r0 y1 y4 y5 M → MzS G B (d + 1) mm_Path_readStep M (0, 0) (mzK1 false B K) 49 [(0, .ref (mz_ad B (13, x))), (1, .int y1), (4, .int y4), (5, .int y5)] [] := by
  intro r0
  induction r0 with
  | zero => intro y1 y4 y5 M hL h; exact False.elim h
  | succ r0 hH49 =>
    intro y1 y4 y5 M hL h
    unfold wp_Path_readStep_49 at h
    exact (mz_iload d_Path_readStep_49 rfl (mz_iload_n d_Path_readStep_51 rfl (mz_icmp_lt 86 d_Path_readStep_52 rfl (fun hc29 => (mz_iload d_Path_readStep_86 rfl (mz_iret .int d_Path_readStep_88 rfl rfl ⟨rfl, hL, _, rfl, (h.1 hc29)⟩))) (fun hc29 => (mz_aload_n d_Path_readStep_55 rfl (mz_iload d_Path_readStep_56 rfl (match (h.2 hc29) with | ⟨j16, h17, h18, h19⟩ => mz_iald j16 d_Path_readStep_58 (hF 13 x rfl hx) rfl h17 h18 (mz_callSN (As := [.int (mz_i M (13, x) j16)]) (st := []) 0 0 d_Path_readStep_59 cs_PL_isNameByte wl_Path_34 ws_PL_isNameByte (Nat.le_of_ble_eq_true rfl) (Nat.zero_le _) (Nat.zero_le _) (MzC.mono (tm_PL_isNameByte (d := d) hF  hL h19) (fun r9 B9 M20 hq22 => by obtain ⟨rfl, hL21, v23, rfl, hq22⟩ := hq22; exact ⟨_, rfl, (mz_if_ne 67 d_Path_readStep_62 rfl (fun hc28 => (mz_iload d_Path_readStep_67 rfl (mz_sipush (128 : Int32) d_Path_readStep_69 (by decide) (mz_imul d_Path_readStep_72 (mz_aload_n d_Path_readStep_73 rfl (mz_iload d_Path_readStep_74 rfl (match (hq22.1 hc28) with | ⟨j24, h25, h26, h27⟩ => mz_iald j24 d_Path_readStep_76 (hF 13 x rfl hx) rfl h25 h26 (mz_iadd d_Path_readStep_77 (mz_istore d_Path_readStep_78 (by decide) (mz_iinc (y5 + (-1 : Int32)) d_Path_readStep_80 rfl (by decide) rfl (mz_goto 49 d_Path_readStep_83 rfl (MzS.loc [(0, .ref (mz_ad B (13, x))), (1, .int y1), (4, .int ((y4 * (128 : Int32)) + (mz_i M20 (13, x) j24))), (5, .int (y5 + (-1 : Int32)))] ⟨rfl, rfl, rfl, rfl, trivial⟩ (hH49 y1 ((y4 * (128 : Int32)) + (mz_i M20 (13, x) j24)) (y5 + (-1 : Int32)) M20 hL21 h27))))))))))))) (fun hc28 => (mz_iconst (-1 : Int32) d_Path_readStep_65 (by decide) (mz_iret .int d_Path_readStep_66 rfl rfl ⟨rfl, hL21, _, rfl, (hq22.2 hc28)⟩))))⟩))))))))))
theorem tm_Path_readStep_29 {G : MzG} {B : MzB} {d : Nat} {K : Int32 → MzM → Prop} (hF : mzLive false B) {x : Nat} (hx : x < 2)   (y1 : Int32) (y2 : Int32) (y3 : Int32) (M : MzM) (hL : mzLnk false M) (h : wp_Path_readStep_29 x  K y1 y2 y3 M) : MzS G B (d + 1) mm_Path_readStep M (0, 0) (mzK1 false B K) 29 [(0, .ref (mz_ad B (13, x))), (1, .int y1), (2, .int y2), (3, .int y3)] [] := by
  unfold wp_Path_readStep_29 at h
  exact (mz_iload_n d_Path_readStep_29 rfl (mz_iconst (1 : Int32) d_Path_readStep_30 (by decide) (mz_icmp_lt 39 d_Path_readStep_31 rfl (fun hc15 => (mz_iconst (-1 : Int32) d_Path_readStep_39 (by decide) (mz_iret .int d_Path_readStep_40 rfl rfl ⟨rfl, hL, _, rfl, (h.1 hc15)⟩))) (fun hc15 => (mz_iload_n d_Path_readStep_34 rfl (mz_iconst (3 : Int32) d_Path_readStep_35 (by decide) (mz_icmp_le 41 d_Path_readStep_36 rfl (fun hc14 => (mz_iconst (0 : Int32) d_Path_readStep_41 (by decide) (mz_istore d_Path_readStep_42 (by decide) (mz_iload_n d_Path_readStep_44 rfl (mz_iconst (1 : Int32) d_Path_readStep_45 (by decide) (mz_isub d_Path_readStep_46 (mz_istore d_Path_readStep_47 (by decide) (MzS.loc [(0, .ref (mz_ad B (13, x))), (1, .int y1), (4, .int (0 : Int32)), (5, .int (y2 - (1 : Int32)))] ⟨rfl, rfl, rfl, rfl, trivial⟩ (match ((h.2 hc15).1 hc14) with | ⟨r12, h13⟩ => tm_Path_readStep_49 hF hx  r12 y1 (0 : Int32) (y2 - (1 : Int32)) M hL h13))))))))) (fun hc14 => (mz_iconst (-1 : Int32) d_Path_readStep_39 (by decide) (mz_iret .int d_Path_readStep_40 rfl rfl ⟨rfl, hL, _, rfl, ((h.2 hc15).2 hc14)⟩))))))))))
theorem tm_Path_readStep {G : MzG} {B : MzB} {d : Nat} {K : Int32 → MzM → Prop} (hF : mzLive false B) {x : Nat} (hx : x < 2) {a1 : Int32} {a2 : Int32} {M : MzM} (hL : mzLnk false M) (h : wp_Path_readStep x a1 a2 M K) : MzC G B (d + 1) mm_Path_readStep [.ref (mz_ad B (13, x)), .int a1, .int a2] M (0, 0) (mzK1 false B K) := by
  unfold wp_Path_readStep at h
  exact MzC.of rfl (Nat.le_of_ble_eq_true rfl) (show MzS G B (d + 1) mm_Path_readStep M (0, 0) (mzK1 false B K) 0 [(0, .ref (mz_ad B (13, x))), (1, .int a1), (2, .int a2)] [] from (mz_iload_n d_Path_readStep_0 rfl (mz_iload_n d_Path_readStep_1 rfl (mz_isub d_Path_readStep_2 (mz_istore_n d_Path_readStep_3 (by decide) (mz_iload_n d_Path_readStep_4 rfl (mz_iconst (2 : Int32) d_Path_readStep_5 (by decide) (mz_icmp_ne 29 d_Path_readStep_6 rfl (fun hc11 => (MzS.loc [(0, .ref (mz_ad B (13, x))), (1, .int a1), (2, .int a2), (3, .int (a2 - a1))] ⟨rfl, rfl, rfl, rfl, trivial⟩ (tm_Path_readStep_29 hF hx  a1 a2 (a2 - a1) M hL (h.1 hc11)))) (fun hc11 => (mz_aload_n d_Path_readStep_9 rfl (mz_iload_n d_Path_readStep_10 rfl (match (h.2 hc11) with | ⟨j1, h2, h3, h4⟩ => mz_iald j1 d_Path_readStep_11 (hF 13 x rfl hx) rfl h2 h3 (mz_bipush (46 : Int32) d_Path_readStep_12 (by decide) (mz_icmp_ne 29 d_Path_readStep_14 rfl (fun hc10 => (MzS.loc [(0, .ref (mz_ad B (13, x))), (1, .int a1), (2, .int a2), (3, .int (a2 - a1))] ⟨rfl, rfl, rfl, rfl, trivial⟩ (tm_Path_readStep_29 hF hx  a1 a2 (a2 - a1) M hL (h4.1 hc10)))) (fun hc10 => (mz_aload_n d_Path_readStep_17 rfl (mz_iload_n d_Path_readStep_18 rfl (mz_iconst (1 : Int32) d_Path_readStep_19 (by decide) (mz_iadd d_Path_readStep_20 (match (h4.2 hc10) with | ⟨j5, h6, h7, h8⟩ => mz_iald j5 d_Path_readStep_21 (hF 13 x rfl hx) rfl h6 h7 (mz_bipush (46 : Int32) d_Path_readStep_22 (by decide) (mz_icmp_ne 29 d_Path_readStep_24 rfl (fun hc9 => (MzS.loc [(0, .ref (mz_ad B (13, x))), (1, .int a1), (2, .int a2), (3, .int (a2 - a1))] ⟨rfl, rfl, rfl, rfl, trivial⟩ (tm_Path_readStep_29 hF hx  a1 a2 (a2 - a1) M hL (h8.1 hc9)))) (fun hc9 => (mz_iconst (0 : Int32) d_Path_readStep_27 (by decide) (mz_iret .int d_Path_readStep_28 rfl rfl ⟨rfl, hL, _, rfl, (h8.2 hc9)⟩)))))))))))))))))))))))))
def mm_Path_addStep : MzT := (⟨"ParcelLine$Path", "addStep", "(I)V"⟩, prog_9_method_3_code, 2, (Option.none : Option Jvm.ClassFile.FieldType))
theorem cs_Path_addStep {mm : MzT} : mzCall mm mm_Path_addStep 1 := ⟨wn_Path, wco_Path_addStep, by decide +kernel, by decide⟩
theorem d_Path_addStep_0 : decode mm_Path_addStep.2.1 0 = .ok (.iload_n 1, 1) := by decide +kernel
theorem d_Path_addStep_1 : decode mm_Path_addStep.2.1 1 = .ok (.iconst (-1), 1) := by decide +kernel
theorem d_Path_addStep_2 : decode mm_Path_addStep.2.1 2 = .ok (.if_icmp .eq 15, 3) := by decide +kernel
theorem d_Path_addStep_5 : decode mm_Path_addStep.2.1 5 = .ok (.aload_n 0, 1) := by decide +kernel
theorem d_Path_addStep_6 : decode mm_Path_addStep.2.1 6 = .ok (.getfield 15, 3) := by decide +kernel
theorem d_Path_addStep_9 : decode mm_Path_addStep.2.1 9 = .ok (.aload_n 0, 1) := by decide +kernel
theorem d_Path_addStep_10 : decode mm_Path_addStep.2.1 10 = .ok (.getfield 9, 3) := by decide +kernel
theorem d_Path_addStep_13 : decode mm_Path_addStep.2.1 13 = .ok (.arraylength, 1) := by decide +kernel
theorem d_Path_addStep_14 : decode mm_Path_addStep.2.1 14 = .ok (.if_icmp .lt 9, 3) := by decide +kernel
theorem d_Path_addStep_17 : decode mm_Path_addStep.2.1 17 = .ok (.aload_n 0, 1) := by decide +kernel
theorem d_Path_addStep_18 : decode mm_Path_addStep.2.1 18 = .ok (.iconst 0, 1) := by decide +kernel
theorem d_Path_addStep_19 : decode mm_Path_addStep.2.1 19 = .ok (.putfield 23, 3) := by decide +kernel
theorem d_Path_addStep_22 : decode mm_Path_addStep.2.1 22 = .ok (.return_, 1) := by decide +kernel
theorem d_Path_addStep_23 : decode mm_Path_addStep.2.1 23 = .ok (.aload_n 0, 1) := by decide +kernel
theorem d_Path_addStep_24 : decode mm_Path_addStep.2.1 24 = .ok (.getfield 9, 3) := by decide +kernel
theorem d_Path_addStep_27 : decode mm_Path_addStep.2.1 27 = .ok (.aload_n 0, 1) := by decide +kernel
theorem d_Path_addStep_28 : decode mm_Path_addStep.2.1 28 = .ok (.getfield 15, 3) := by decide +kernel
theorem d_Path_addStep_31 : decode mm_Path_addStep.2.1 31 = .ok (.iload_n 1, 1) := by decide +kernel
theorem d_Path_addStep_32 : decode mm_Path_addStep.2.1 32 = .ok (.iastore, 1) := by decide +kernel
theorem d_Path_addStep_33 : decode mm_Path_addStep.2.1 33 = .ok (.aload_n 0, 1) := by decide +kernel
theorem d_Path_addStep_34 : decode mm_Path_addStep.2.1 34 = .ok (.dup, 1) := by decide +kernel
theorem d_Path_addStep_35 : decode mm_Path_addStep.2.1 35 = .ok (.getfield 15, 3) := by decide +kernel
theorem d_Path_addStep_38 : decode mm_Path_addStep.2.1 38 = .ok (.iconst 1, 1) := by decide +kernel
theorem d_Path_addStep_39 : decode mm_Path_addStep.2.1 39 = .ok (.iadd, 1) := by decide +kernel
theorem d_Path_addStep_40 : decode mm_Path_addStep.2.1 40 = .ok (.putfield 15, 3) := by decide +kernel
theorem d_Path_addStep_43 : decode mm_Path_addStep.2.1 43 = .ok (.return_, 1) := by decide +kernel
def wp_Path_addStep (x : Nat) (a1 : Int32) (M : MzM) (K : MzM → Prop) : Prop := ((a1 = (-1 : Int32) → (∀ M1 : MzM, M1 = mz_si M (14, x) 3 (0 : Int32) → K M1)) ∧ (¬ a1 = (-1 : Int32) → (((mz_i M (14, x) 1) < (30 : Int32) → (∃ j5 : Nat, (mz_i M (14, x) 1).toInt = (j5 : Int) ∧ j5 < 30 ∧ ∀ M2 : MzM, M2 = mz_si M (15, x) j5 a1 → (∀ M8 : MzM, M8 = mz_si M2 (14, x) 1 ((mz_i M2 (14, x) 1) + (1 : Int32)) → K M8))) ∧ (¬ (mz_i M (14, x) 1) < (30 : Int32) → (∀ M9 : MzM, M9 = mz_si M (14, x) 3 (0 : Int32) → K M9)))))
theorem tm_Path_addStep {G : MzG} {B : MzB} {d : Nat} {K : MzM → Prop} (hF : mzLive false B) {x : Nat} (hx : x < 2) {a1 : Int32} {M : MzM} (hL : mzLnk false M) (h : wp_Path_addStep x a1 M K) : MzC G B d mm_Path_addStep [.ref (mz_ad B (14, x)), .int a1] M (0, 0) (mzK0 false B K) := by
  unfold wp_Path_addStep at h
  exact MzC.of rfl (Nat.le_of_ble_eq_true rfl) (show MzS G B d mm_Path_addStep M (0, 0) (mzK0 false B K) 0 [(0, .ref (mz_ad B (14, x))), (1, .int a1)] [] from (mz_iload_n d_Path_addStep_0 rfl (mz_iconst (-1 : Int32) d_Path_addStep_1 (by decide) (mz_icmp_eq 17 d_Path_addStep_2 rfl (fun hc11 => (mz_aload_n d_Path_addStep_17 rfl (mz_iconst (0 : Int32) d_Path_addStep_18 (by decide) (mz_putI (k := 3) cl_7 d_Path_addStep_19 (by decide) wf_Path_23 rfl rfl rfl rfl (hF 14 x rfl hx) rfl (let M1 : MzM := mz_si M (14, x) 3 (0 : Int32); (mz_vret d_Path_addStep_22 rfl ⟨rfl, hL, rfl, ((h.1 hc11) M1 rfl)⟩)))))) (fun hc11 => (mz_aload_n d_Path_addStep_5 rfl (mz_getI (k := 1) cl_7 d_Path_addStep_6 (by decide) wf_Path_15 rfl (hF 14 x rfl hx) rfl (mz_aload_n d_Path_addStep_9 rfl (mz_getR (k := 0) (a := (15, x)) cl_7 d_Path_addStep_10 (by decide) wf_Path_9 rfl (hF 14 x rfl hx) rfl (hL (14, x) 0 (15, x) rfl rfl hx) (mz_alen (30 : Int32) d_Path_addStep_13 (hF 15 x rfl hx) rfl (by decide) (mz_icmp_lt 23 d_Path_addStep_14 rfl (fun hc10 => (mz_aload_n d_Path_addStep_23 rfl (mz_getR (k := 0) (a := (15, x)) cl_7 d_Path_addStep_24 (by decide) wf_Path_9 rfl (hF 14 x rfl hx) rfl (hL (14, x) 0 (15, x) rfl rfl hx) (mz_aload_n d_Path_addStep_27 rfl (mz_getI (k := 1) cl_7 d_Path_addStep_28 (by decide) wf_Path_15 rfl (hF 14 x rfl hx) rfl (mz_iload_n d_Path_addStep_31 rfl (match ((h.2 hc11).1 hc10) with | ⟨j5, h6, h7, h4⟩ => mz_iast j5 d_Path_addStep_32 (hF 15 x rfl hx) rfl h6 h7 (let M2 : MzM := mz_si M (15, x) j5 a1; (mz_aload_n d_Path_addStep_33 rfl (mz_dup d_Path_addStep_34 rfl (mz_getI (k := 1) cl_7 d_Path_addStep_35 (by decide) wf_Path_15 rfl (hF 14 x rfl hx) rfl (mz_iconst (1 : Int32) d_Path_addStep_38 (by decide) (mz_iadd d_Path_addStep_39 (mz_putI (k := 1) cl_7 d_Path_addStep_40 (by decide) wf_Path_15 rfl rfl rfl rfl (hF 14 x rfl hx) rfl (let M8 : MzM := mz_si M2 (14, x) 1 ((mz_i M2 (14, x) 1) + (1 : Int32)); (mz_vret d_Path_addStep_43 rfl ⟨rfl, hL, rfl, ((h4 M2 rfl) M8 rfl)⟩)))))))))))))))) (fun hc10 => (mz_aload_n d_Path_addStep_17 rfl (mz_iconst (0 : Int32) d_Path_addStep_18 (by decide) (mz_putI (k := 3) cl_7 d_Path_addStep_19 (by decide) wf_Path_23 rfl rfl rfl rfl (hF 14 x rfl hx) rfl (let M9 : MzM := mz_si M (14, x) 3 (0 : Int32); (mz_vret d_Path_addStep_22 rfl ⟨rfl, hL, rfl, (((h.2 hc11).2 hc10) M9 rfl)⟩)))))))))))))))))
def mm_Path_read : MzT := (⟨"ParcelLine$Path", "read", "([III)V"⟩, prog_9_method_2_code, 6, (Option.none : Option Jvm.ClassFile.FieldType))
theorem cs_Path_read {mm : MzT} : mzCall mm mm_Path_read 3 := ⟨wn_Path, wco_Path_read, by decide +kernel, by decide⟩
theorem d_Path_read_0 : decode mm_Path_read.2.1 0 = .ok (.aload_n 0, 1) := by decide +kernel
theorem d_Path_read_1 : decode mm_Path_read.2.1 1 = .ok (.iconst 0, 1) := by decide +kernel
theorem d_Path_read_2 : decode mm_Path_read.2.1 2 = .ok (.putfield 15, 3) := by decide +kernel
theorem d_Path_read_5 : decode mm_Path_read.2.1 5 = .ok (.aload_n 0, 1) := by decide +kernel
theorem d_Path_read_6 : decode mm_Path_read.2.1 6 = .ok (.iload_n 2, 1) := by decide +kernel
theorem d_Path_read_7 : decode mm_Path_read.2.1 7 = .ok (.iload_n 3, 1) := by decide +kernel
theorem d_Path_read_8 : decode mm_Path_read.2.1 8 = .ok (.if_icmp .ge 15, 3) := by decide +kernel
theorem d_Path_read_11 : decode mm_Path_read.2.1 11 = .ok (.aload_n 1, 1) := by decide +kernel
theorem d_Path_read_12 : decode mm_Path_read.2.1 12 = .ok (.iload_n 2, 1) := by decide +kernel
theorem d_Path_read_13 : decode mm_Path_read.2.1 13 = .ok (.iaload, 1) := by decide +kernel
theorem d_Path_read_14 : decode mm_Path_read.2.1 14 = .ok (.bipush 47, 2) := by decide +kernel
theorem d_Path_read_16 : decode mm_Path_read.2.1 16 = .ok (.if_icmp .ne 7, 3) := by decide +kernel
theorem d_Path_read_19 : decode mm_Path_read.2.1 19 = .ok (.iconst 1, 1) := by decide +kernel
theorem d_Path_read_20 : decode mm_Path_read.2.1 20 = .ok (.goto 4, 3) := by decide +kernel
theorem d_Path_read_23 : decode mm_Path_read.2.1 23 = .ok (.iconst 0, 1) := by decide +kernel
theorem d_Path_read_24 : decode mm_Path_read.2.1 24 = .ok (.putfield 19, 3) := by decide +kernel
theorem d_Path_read_27 : decode mm_Path_read.2.1 27 = .ok (.aload_n 0, 1) := by decide +kernel
theorem d_Path_read_28 : decode mm_Path_read.2.1 28 = .ok (.getfield 19, 3) := by decide +kernel
theorem d_Path_read_31 : decode mm_Path_read.2.1 31 = .ok (.ifCond .eq 9, 3) := by decide +kernel
theorem d_Path_read_34 : decode mm_Path_read.2.1 34 = .ok (.iload_n 2, 1) := by decide +kernel
theorem d_Path_read_35 : decode mm_Path_read.2.1 35 = .ok (.iconst 1, 1) := by decide +kernel
theorem d_Path_read_36 : decode mm_Path_read.2.1 36 = .ok (.iadd, 1) := by decide +kernel
theorem d_Path_read_37 : decode mm_Path_read.2.1 37 = .ok (.goto 4, 3) := by decide +kernel
theorem d_Path_read_40 : decode mm_Path_read.2.1 40 = .ok (.iload_n 2, 1) := by decide +kernel
theorem d_Path_read_41 : decode mm_Path_read.2.1 41 = .ok (.istore 4, 2) := by decide +kernel
theorem d_Path_read_43 : decode mm_Path_read.2.1 43 = .ok (.aload_n 0, 1) := by decide +kernel
theorem d_Path_read_44 : decode mm_Path_read.2.1 44 = .ok (.aload_n 0, 1) := by decide +kernel
theorem d_Path_read_45 : decode mm_Path_read.2.1 45 = .ok (.getfield 19, 3) := by decide +kernel
theorem d_Path_read_48 : decode mm_Path_read.2.1 48 = .ok (.ifCond .ne 8, 3) := by decide +kernel
theorem d_Path_read_51 : decode mm_Path_read.2.1 51 = .ok (.iload_n 2, 1) := by decide +kernel
theorem d_Path_read_52 : decode mm_Path_read.2.1 52 = .ok (.iload_n 3, 1) := by decide +kernel
theorem d_Path_read_53 : decode mm_Path_read.2.1 53 = .ok (.if_icmp .ge 7, 3) := by decide +kernel
theorem d_Path_read_56 : decode mm_Path_read.2.1 56 = .ok (.iconst 1, 1) := by decide +kernel
theorem d_Path_read_57 : decode mm_Path_read.2.1 57 = .ok (.goto 4, 3) := by decide +kernel
theorem d_Path_read_60 : decode mm_Path_read.2.1 60 = .ok (.iconst 0, 1) := by decide +kernel
theorem d_Path_read_61 : decode mm_Path_read.2.1 61 = .ok (.putfield 23, 3) := by decide +kernel
theorem d_Path_read_64 : decode mm_Path_read.2.1 64 = .ok (.aload_n 0, 1) := by decide +kernel
theorem d_Path_read_65 : decode mm_Path_read.2.1 65 = .ok (.getfield 19, 3) := by decide +kernel
theorem d_Path_read_68 : decode mm_Path_read.2.1 68 = .ok (.ifCond .eq 10, 3) := by decide +kernel
theorem d_Path_read_71 : decode mm_Path_read.2.1 71 = .ok (.iload 4, 2) := by decide +kernel
theorem d_Path_read_73 : decode mm_Path_read.2.1 73 = .ok (.iload_n 3, 1) := by decide +kernel
theorem d_Path_read_74 : decode mm_Path_read.2.1 74 = .ok (.if_icmp .ne 4, 3) := by decide +kernel
theorem d_Path_read_77 : decode mm_Path_read.2.1 77 = .ok (.return_, 1) := by decide +kernel
theorem d_Path_read_78 : decode mm_Path_read.2.1 78 = .ok (.iload 4, 2) := by decide +kernel
theorem d_Path_read_80 : decode mm_Path_read.2.1 80 = .ok (.istore 5, 2) := by decide +kernel
theorem d_Path_read_82 : decode mm_Path_read.2.1 82 = .ok (.aload_n 0, 1) := by decide +kernel
theorem d_Path_read_83 : decode mm_Path_read.2.1 83 = .ok (.getfield 23, 3) := by decide +kernel
theorem d_Path_read_86 : decode mm_Path_read.2.1 86 = .ok (.ifCond .eq 48, 3) := by decide +kernel
theorem d_Path_read_89 : decode mm_Path_read.2.1 89 = .ok (.iload 5, 2) := by decide +kernel
theorem d_Path_read_91 : decode mm_Path_read.2.1 91 = .ok (.iload_n 3, 1) := by decide +kernel
theorem d_Path_read_92 : decode mm_Path_read.2.1 92 = .ok (.if_icmp .gt 42, 3) := by decide +kernel
theorem d_Path_read_95 : decode mm_Path_read.2.1 95 = .ok (.iload 5, 2) := by decide +kernel
theorem d_Path_read_97 : decode mm_Path_read.2.1 97 = .ok (.iload_n 3, 1) := by decide +kernel
theorem d_Path_read_98 : decode mm_Path_read.2.1 98 = .ok (.if_icmp .eq 12, 3) := by decide +kernel
theorem d_Path_read_101 : decode mm_Path_read.2.1 101 = .ok (.aload_n 1, 1) := by decide +kernel
theorem d_Path_read_102 : decode mm_Path_read.2.1 102 = .ok (.iload 5, 2) := by decide +kernel
theorem d_Path_read_104 : decode mm_Path_read.2.1 104 = .ok (.iaload, 1) := by decide +kernel
theorem d_Path_read_105 : decode mm_Path_read.2.1 105 = .ok (.bipush 47, 2) := by decide +kernel
theorem d_Path_read_107 : decode mm_Path_read.2.1 107 = .ok (.if_icmp .ne 21, 3) := by decide +kernel
theorem d_Path_read_110 : decode mm_Path_read.2.1 110 = .ok (.aload_n 0, 1) := by decide +kernel
theorem d_Path_read_111 : decode mm_Path_read.2.1 111 = .ok (.aload_n 1, 1) := by decide +kernel
theorem d_Path_read_112 : decode mm_Path_read.2.1 112 = .ok (.iload 4, 2) := by decide +kernel
theorem d_Path_read_114 : decode mm_Path_read.2.1 114 = .ok (.iload 5, 2) := by decide +kernel
theorem d_Path_read_116 : decode mm_Path_read.2.1 116 = .ok (.invokestatic 26, 3) := by decide +kernel
theorem d_Path_read_119 : decode mm_Path_read.2.1 119 = .ok (.invokevirtual 30, 3) := by decide +kernel
theorem d_Path_read_122 : decode mm_Path_read.2.1 122 = .ok (.iload 5, 2) := by decide +kernel
theorem d_Path_read_124 : decode mm_Path_read.2.1 124 = .ok (.iconst 1, 1) := by decide +kernel
theorem d_Path_read_125 : decode mm_Path_read.2.1 125 = .ok (.iadd, 1) := by decide +kernel
theorem d_Path_read_126 : decode mm_Path_read.2.1 126 = .ok (.istore 4, 2) := by decide +kernel
theorem d_Path_read_128 : decode mm_Path_read.2.1 128 = .ok (.iinc 5 1, 3) := by decide +kernel
theorem d_Path_read_131 : decode mm_Path_read.2.1 131 = .ok (.goto (-49), 3) := by decide +kernel
theorem d_Path_read_134 : decode mm_Path_read.2.1 134 = .ok (.return_, 1) := by decide +kernel
def wp_Path_read_128 (x : Nat) (H82 : Int32 → Int32 → Int32 → MzM → Prop) (K : MzM → Prop) (y3 : Int32) (y4 : Int32) (y5 : Int32) (M : MzM) : Prop := H82 y3 y4 (y5 + (1 : Int32)) M
def wp_Path_read_110 (x : Nat) (H82 : Int32 → Int32 → Int32 → MzM → Prop) (K : MzM → Prop) (y3 : Int32) (y4 : Int32) (y5 : Int32) (M : MzM) : Prop := wp_Path_readStep x y4 y5 M (fun v28 M25 => wp_Path_addStep x v28 M25 (fun M29 => wp_Path_read_128 x H82 K y3 (y5 + (1 : Int32)) y5 M29))
def wp_Path_read_82 (x : Nat)  (K : MzM → Prop) : Nat → Int32 → Int32 → Int32 → MzM → Prop
  | 0, _, _, _, _ => False
  | r0 + 1, y3, y4, y5, M => (((mz_i M (14, x) 3) = 0 → K M) ∧ (¬ (mz_i M (14, x) 3) = 0 → ((y3 < y5 → K M) ∧ (¬ y3 < y5 → ((y5 = y3 → wp_Path_read_110 x (wp_Path_read_82 x  K r0) K y3 y4 y5 M) ∧ (¬ y5 = y3 → (∃ j17 : Nat, y5.toInt = (j17 : Int) ∧ j17 < 30 ∧ ((¬ (mz_i M (13, x) j17) = (47 : Int32) → wp_Path_read_128 x (wp_Path_read_82 x  K r0) K y3 y4 y5 M) ∧ ((mz_i M (13, x) j17) = (47 : Int32) → wp_Path_read_110 x (wp_Path_read_82 x  K r0) K y3 y4 y5 M)))))))))
def wp_Path_read_78 (x : Nat)  (K : MzM → Prop) (y3 : Int32) (y4 : Int32) (M : MzM) : Prop := (∃ r15 : Nat, wp_Path_read_82 x  K r15 y3 y4 y4 M)
def wp_Path_read_61 (x : Nat)  (K : MzM → Prop) (y3 : Int32) (y4 : Int32) (ys0 : Int32) (M : MzM) : Prop := ((ys0 = 0 ∨ ys0 = 1) ∧ ∀ M12 : MzM, M12 = mz_si M (14, x) 3 ys0 → (((mz_i M12 (14, x) 2) = 0 → wp_Path_read_78 x  K y3 y4 M12) ∧ (¬ (mz_i M12 (14, x) 2) = 0 → ((¬ y4 = y3 → wp_Path_read_78 x  K y3 y4 M12) ∧ (y4 = y3 → K M12)))))
def wp_Path_read_56 (x : Nat)  (K : MzM → Prop) (y3 : Int32) (y4 : Int32) (M : MzM) : Prop := wp_Path_read_61 x  K y3 y4 (1 : Int32) M
def wp_Path_read_41 (x : Nat)  (K : MzM → Prop) (y2 : Int32) (y3 : Int32) (ys0 : Int32) (M : MzM) : Prop := ((¬ (mz_i M (14, x) 2) = 0 → wp_Path_read_56 x  K y3 ys0 M) ∧ ((mz_i M (14, x) 2) = 0 → ((y3 ≤ y2 → wp_Path_read_61 x  K y3 ys0 (0 : Int32) M) ∧ (¬ y3 ≤ y2 → wp_Path_read_56 x  K y3 ys0 M))))
def wp_Path_read_24 (x : Nat)  (K : MzM → Prop) (y2 : Int32) (y3 : Int32) (ys0 : Int32) (M : MzM) : Prop := ((ys0 = 0 ∨ ys0 = 1) ∧ ∀ M8 : MzM, M8 = mz_si M (14, x) 2 ys0 → (((mz_i M8 (14, x) 2) = 0 → wp_Path_read_41 x  K y2 y3 y2 M8) ∧ (¬ (mz_i M8 (14, x) 2) = 0 → wp_Path_read_41 x  K y2 y3 (y2 + (1 : Int32)) M8)))
def wp_Path_read_23 (x : Nat)  (K : MzM → Prop) (y2 : Int32) (y3 : Int32) (M : MzM) : Prop := wp_Path_read_24 x  K y2 y3 (0 : Int32) M
def wp_Path_read (x : Nat) (a2 : Int32) (a3 : Int32) (M : MzM) (K : MzM → Prop) : Prop := (∀ M1 : MzM, M1 = mz_si M (14, x) 1 (0 : Int32) → ((a3 ≤ a2 → wp_Path_read_23 x  K a2 a3 M1) ∧ (¬ a3 ≤ a2 → (∃ j2 : Nat, a2.toInt = (j2 : Int) ∧ j2 < 30 ∧ ((¬ (mz_i M1 (13, x) j2) = (47 : Int32) → wp_Path_read_23 x  K a2 a3 M1) ∧ ((mz_i M1 (13, x) j2) = (47 : Int32) → wp_Path_read_24 x  K a2 a3 (1 : Int32) M1))))))
theorem tm_Path_read_128 {G : MzG} {B : MzB} {d : Nat} {K : MzM → Prop} (hF : mzLive false B) {x : Nat} (hx : x < 2) {H82 : Int32 → Int32 → Int32 → MzM → Prop} (hH82 : ∀ (y3 : Int32) (y4 : Int32) (y5 : Int32) (M : MzM), mzLnk false M → H82 y3 y4 y5 M → MzS G B (d + 2) mm_Path_read M (0, 0) (mzK0 false B K) 82 [(0, .ref (mz_ad B (14, x))), (1, .ref (mz_ad B (13, x))), (3, .int y3), (4, .int y4), (5, .int y5)] []) (y3 : Int32) (y4 : Int32) (y5 : Int32) (M : MzM) (hL : mzLnk false M) (h : wp_Path_read_128 x H82 K y3 y4 y5 M) : MzS G B (d + 2) mm_Path_read M (0, 0) (mzK0 false B K) 128 [(0, .ref (mz_ad B (14, x))), (1, .ref (mz_ad B (13, x))), (3, .int y3), (4, .int y4), (5, .int y5)] [] := by
  unfold wp_Path_read_128 at h
  exact (mz_iinc (y5 + (1 : Int32)) d_Path_read_128 rfl (by decide) rfl (mz_goto 82 d_Path_read_131 rfl (MzS.loc [(0, .ref (mz_ad B (14, x))), (1, .ref (mz_ad B (13, x))), (3, .int y3), (4, .int y4), (5, .int (y5 + (1 : Int32)))] ⟨rfl, rfl, rfl, rfl, rfl, trivial⟩ (hH82 y3 y4 (y5 + (1 : Int32)) M hL h))))
theorem tm_Path_read_110 {G : MzG} {B : MzB} {d : Nat} {K : MzM → Prop} (hF : mzLive false B) {x : Nat} (hx : x < 2) {H82 : Int32 → Int32 → Int32 → MzM → Prop} (hH82 : ∀ (y3 : Int32) (y4 : Int32) (y5 : Int32) (M : MzM), mzLnk false M → H82 y3 y4 y5 M → MzS G B (d + 2) mm_Path_read M (0, 0) (mzK0 false B K) 82 [(0, .ref (mz_ad B (14, x))), (1, .ref (mz_ad B (13, x))), (3, .int y3), (4, .int y4), (5, .int y5)] []) (y3 : Int32) (y4 : Int32) (y5 : Int32) (M : MzM) (hL : mzLnk false M) (h : wp_Path_read_110 x H82 K y3 y4 y5 M) : MzS G B (d + 2) mm_Path_read M (0, 0) (mzK0 false B K) 110 [(0, .ref (mz_ad B (14, x))), (1, .ref (mz_ad B (13, x))), (3, .int y3), (4, .int y4), (5, .int y5)] [] := by
  unfold wp_Path_read_110 at h
  exact (mz_aload_n d_Path_read_110 rfl (mz_aload_n d_Path_read_111 rfl (mz_iload d_Path_read_112 rfl (mz_iload d_Path_read_114 rfl (mz_callS (As := [.ref (mz_ad B (13, x)), .int y4, .int y5]) (st := [.ref (mz_ad B (14, x))]) 0 0 d_Path_read_116 cs_Path_readStep wl_Path_26 ws_Path_readStep (Nat.le_of_ble_eq_true rfl) (Nat.zero_le _) (Nat.zero_le _) (MzC.mono (tm_Path_readStep (d := d) hF hx hL h) (fun r9 B9 M25 hq27 => by obtain ⟨rfl, hL26, v28, rfl, hq27⟩ := hq27; exact ⟨_, rfl, (mz_callV (As := [.int v28]) (st := []) (hF 14 x rfl hx) rfl (mzClOf cl_7) 0 0 d_Path_read_119 cs_Path_addStep wl_Path_30 wi_Path_addStep wse_Path_addStep (Nat.le_of_ble_eq_true rfl) (Nat.zero_le _) (Nat.zero_le _) (MzC.mono (tm_Path_addStep (d := (d + 1)) hF hx hL26 hq27) (fun r9 B9 M29 hq31 => by obtain ⟨rfl, hL30, rfl, hq31⟩ := hq31; exact ⟨none, rfl, (mz_iload d_Path_read_122 rfl (mz_iconst (1 : Int32) d_Path_read_124 (by decide) (mz_iadd d_Path_read_125 (mz_istore d_Path_read_126 (by decide) (MzS.loc [(0, .ref (mz_ad B (14, x))), (1, .ref (mz_ad B (13, x))), (3, .int y3), (4, .int (y5 + (1 : Int32))), (5, .int y5)] ⟨rfl, rfl, rfl, rfl, rfl, trivial⟩ (tm_Path_read_128 hF hx hH82 y3 (y5 + (1 : Int32)) y5 M29 hL30 hq31))))))⟩)))⟩)))))))
theorem tm_Path_read_82 {G : MzG} {B : MzB} {d : Nat} {K : MzM → Prop} (hF : mzLive false B) {x : Nat} (hx : x < 2)   : ∀ (r0 : Nat) (y3 : Int32) (y4 : Int32) (y5 : Int32) (M : MzM), mzLnk false M → wp_Path_read_82 x  K r0 y3 y4 y5 M → MzS G B (d + 2) mm_Path_read M (0, 0) (mzK0 false B K) 82 [(0, .ref (mz_ad B (14, x))), (1, .ref (mz_ad B (13, x))), (3, .int y3), (4, .int y4), (5, .int y5)] [] := by
  intro r0
  induction r0 with
  | zero => intro y3 y4 y5 M hL h; exact False.elim h
  | succ r0 hH82 =>
    intro y3 y4 y5 M hL h
    unfold wp_Path_read_82 at h
    exact (mz_aload_n d_Path_read_82 rfl (mz_getI (k := 3) cl_7 d_Path_read_83 (by decide) wf_Path_23 rfl (hF 14 x rfl hx) rfl (mz_if_eq 134 d_Path_read_86 rfl (fun hc24 => (mz_vret d_Path_read_134 rfl ⟨rfl, hL, rfl, (h.1 hc24)⟩)) (fun hc24 => (mz_iload d_Path_read_89 rfl (mz_iload_n d_Path_read_91 rfl (mz_icmp_gt 134 d_Path_read_92 rfl (fun hc23 => (mz_vret d_Path_read_134 rfl ⟨rfl, hL, rfl, ((h.2 hc24).1 hc23)⟩)) (fun hc23 => (mz_iload d_Path_read_95 rfl (mz_iload_n d_Path_read_97 rfl (mz_icmp_eq 110 d_Path_read_98 rfl (fun hc22 => (MzS.loc [(0, .ref (mz_ad B (14, x))), (1, .ref (mz_ad B (13, x))), (3, .int y3), (4, .int y4), (5, .int y5)] ⟨rfl, rfl, rfl, rfl, rfl, trivial⟩ (tm_Path_read_110 hF hx hH82 y3 y4 y5 M hL (((h.2 hc24).2 hc23).1 hc22)))) (fun hc22 => (mz_aload_n d_Path_read_101 rfl (mz_iload d_Path_read_102 rfl (match (((h.2 hc24).2 hc23).2 hc22) with | ⟨j17, h18, h19, h20⟩ => mz_iald j17 d_Path_read_104 (hF 13 x rfl hx) rfl h18 h19 (mz_bipush (47 : Int32) d_Path_read_105 (by decide) (mz_icmp_ne 128 d_Path_read_107 rfl (fun hc21 => (MzS.loc [(0, .ref (mz_ad B (14, x))), (1, .ref (mz_ad B (13, x))), (3, .int y3), (4, .int y4), (5, .int y5)] ⟨rfl, rfl, rfl, rfl, rfl, trivial⟩ (tm_Path_read_128 hF hx hH82 y3 y4 y5 M hL (h20.1 hc21)))) (fun hc21 => (MzS.loc [(0, .ref (mz_ad B (14, x))), (1, .ref (mz_ad B (13, x))), (3, .int y3), (4, .int y4), (5, .int y5)] ⟨rfl, rfl, rfl, rfl, rfl, trivial⟩ (tm_Path_read_110 hF hx hH82 y3 y4 y5 M hL (h20.2 hc21)))))))))))))))))))))
theorem tm_Path_read_78 {G : MzG} {B : MzB} {d : Nat} {K : MzM → Prop} (hF : mzLive false B) {x : Nat} (hx : x < 2)   (y3 : Int32) (y4 : Int32) (M : MzM) (hL : mzLnk false M) (h : wp_Path_read_78 x  K y3 y4 M) : MzS G B (d + 2) mm_Path_read M (0, 0) (mzK0 false B K) 78 [(0, .ref (mz_ad B (14, x))), (1, .ref (mz_ad B (13, x))), (3, .int y3), (4, .int y4)] [] := by
  unfold wp_Path_read_78 at h
  exact (mz_iload d_Path_read_78 rfl (mz_istore d_Path_read_80 (by decide) (MzS.loc [(0, .ref (mz_ad B (14, x))), (1, .ref (mz_ad B (13, x))), (3, .int y3), (4, .int y4), (5, .int y4)] ⟨rfl, rfl, rfl, rfl, rfl, trivial⟩ (match h with | ⟨r15, h16⟩ => tm_Path_read_82 hF hx  r15 y3 y4 y4 M hL h16))))
theorem tm_Path_read_61 {G : MzG} {B : MzB} {d : Nat} {K : MzM → Prop} (hF : mzLive false B) {x : Nat} (hx : x < 2)   (y3 : Int32) (y4 : Int32) (ys0 : Int32) (M : MzM) (hL : mzLnk false M) (h : wp_Path_read_61 x  K y3 y4 ys0 M) : MzS G B (d + 2) mm_Path_read M (0, 0) (mzK0 false B K) 61 [(0, .ref (mz_ad B (14, x))), (1, .ref (mz_ad B (13, x))), (3, .int y3), (4, .int y4)] [.int ys0, .ref (mz_ad B (14, x))] := by
  unfold wp_Path_read_61 at h
  exact (mz_putI (k := 3) cl_7 d_Path_read_61 (by decide) wf_Path_23 rfl rfl (mz_bo h.1).1 (mz_bo h.1).2 (hF 14 x rfl hx) rfl (let M12 : MzM := mz_si M (14, x) 3 ys0; (mz_aload_n d_Path_read_64 rfl (mz_getI (k := 2) cl_7 d_Path_read_65 (by decide) wf_Path_19 rfl (hF 14 x rfl hx) rfl (mz_if_eq 78 d_Path_read_68 rfl (fun hc14 => (MzS.loc [(0, .ref (mz_ad B (14, x))), (1, .ref (mz_ad B (13, x))), (3, .int y3), (4, .int y4)] ⟨rfl, rfl, rfl, rfl, trivial⟩ (tm_Path_read_78 hF hx  y3 y4 M12 hL ((h.2 M12 rfl).1 hc14)))) (fun hc14 => (mz_iload d_Path_read_71 rfl (mz_iload_n d_Path_read_73 rfl (mz_icmp_ne 78 d_Path_read_74 rfl (fun hc13 => (MzS.loc [(0, .ref (mz_ad B (14, x))), (1, .ref (mz_ad B (13, x))), (3, .int y3), (4, .int y4)] ⟨rfl, rfl, rfl, rfl, trivial⟩ (tm_Path_read_78 hF hx  y3 y4 M12 hL (((h.2 M12 rfl).2 hc14).1 hc13)))) (fun hc13 => (mz_vret d_Path_read_77 rfl ⟨rfl, hL, rfl, (((h.2 M12 rfl).2 hc14).2 hc13)⟩)))))))))))
theorem tm_Path_read_56 {G : MzG} {B : MzB} {d : Nat} {K : MzM → Prop} (hF : mzLive false B) {x : Nat} (hx : x < 2)   (y3 : Int32) (y4 : Int32) (M : MzM) (hL : mzLnk false M) (h : wp_Path_read_56 x  K y3 y4 M) : MzS G B (d + 2) mm_Path_read M (0, 0) (mzK0 false B K) 56 [(0, .ref (mz_ad B (14, x))), (1, .ref (mz_ad B (13, x))), (3, .int y3), (4, .int y4)] [.ref (mz_ad B (14, x))] := by
  unfold wp_Path_read_56 at h
  exact (mz_iconst (1 : Int32) d_Path_read_56 (by decide) (mz_goto 61 d_Path_read_57 rfl (MzS.loc [(0, .ref (mz_ad B (14, x))), (1, .ref (mz_ad B (13, x))), (3, .int y3), (4, .int y4)] ⟨rfl, rfl, rfl, rfl, trivial⟩ (tm_Path_read_61 hF hx  y3 y4 (1 : Int32) M hL h))))
theorem tm_Path_read_41 {G : MzG} {B : MzB} {d : Nat} {K : MzM → Prop} (hF : mzLive false B) {x : Nat} (hx : x < 2)   (y2 : Int32) (y3 : Int32) (ys0 : Int32) (M : MzM) (hL : mzLnk false M) (h : wp_Path_read_41 x  K y2 y3 ys0 M) : MzS G B (d + 2) mm_Path_read M (0, 0) (mzK0 false B K) 41 [(0, .ref (mz_ad B (14, x))), (1, .ref (mz_ad B (13, x))), (2, .int y2), (3, .int y3)] [.int ys0] := by
  unfold wp_Path_read_41 at h
  exact (mz_istore d_Path_read_41 (by decide) (mz_aload_n d_Path_read_43 rfl (mz_aload_n d_Path_read_44 rfl (mz_getI (k := 2) cl_7 d_Path_read_45 (by decide) wf_Path_19 rfl (hF 14 x rfl hx) rfl (mz_if_ne 56 d_Path_read_48 rfl (fun hc11 => (MzS.loc [(0, .ref (mz_ad B (14, x))), (1, .ref (mz_ad B (13, x))), (3, .int y3), (4, .int ys0)] ⟨rfl, rfl, rfl, rfl, trivial⟩ (tm_Path_read_56 hF hx  y3 ys0 M hL (h.1 hc11)))) (fun hc11 => (mz_iload_n d_Path_read_51 rfl (mz_iload_n d_Path_read_52 rfl (mz_icmp_ge 60 d_Path_read_53 rfl (fun hc10 => (mz_iconst (0 : Int32) d_Path_read_60 (by decide) (MzS.loc [(0, .ref (mz_ad B (14, x))), (1, .ref (mz_ad B (13, x))), (3, .int y3), (4, .int ys0)] ⟨rfl, rfl, rfl, rfl, trivial⟩ (tm_Path_read_61 hF hx  y3 ys0 (0 : Int32) M hL ((h.2 hc11).1 hc10))))) (fun hc10 => (MzS.loc [(0, .ref (mz_ad B (14, x))), (1, .ref (mz_ad B (13, x))), (3, .int y3), (4, .int ys0)] ⟨rfl, rfl, rfl, rfl, trivial⟩ (tm_Path_read_56 hF hx  y3 ys0 M hL ((h.2 hc11).2 hc10)))))))))))))
theorem tm_Path_read_24 {G : MzG} {B : MzB} {d : Nat} {K : MzM → Prop} (hF : mzLive false B) {x : Nat} (hx : x < 2)   (y2 : Int32) (y3 : Int32) (ys0 : Int32) (M : MzM) (hL : mzLnk false M) (h : wp_Path_read_24 x  K y2 y3 ys0 M) : MzS G B (d + 2) mm_Path_read M (0, 0) (mzK0 false B K) 24 [(0, .ref (mz_ad B (14, x))), (1, .ref (mz_ad B (13, x))), (2, .int y2), (3, .int y3)] [.int ys0, .ref (mz_ad B (14, x))] := by
  unfold wp_Path_read_24 at h
  exact (mz_putI (k := 2) cl_7 d_Path_read_24 (by decide) wf_Path_19 rfl rfl (mz_bo h.1).1 (mz_bo h.1).2 (hF 14 x rfl hx) rfl (let M8 : MzM := mz_si M (14, x) 2 ys0; (mz_aload_n d_Path_read_27 rfl (mz_getI (k := 2) cl_7 d_Path_read_28 (by decide) wf_Path_19 rfl (hF 14 x rfl hx) rfl (mz_if_eq 40 d_Path_read_31 rfl (fun hc9 => (mz_iload_n d_Path_read_40 rfl (MzS.loc [(0, .ref (mz_ad B (14, x))), (1, .ref (mz_ad B (13, x))), (2, .int y2), (3, .int y3)] ⟨rfl, rfl, rfl, rfl, trivial⟩ (tm_Path_read_41 hF hx  y2 y3 y2 M8 hL ((h.2 M8 rfl).1 hc9))))) (fun hc9 => (mz_iload_n d_Path_read_34 rfl (mz_iconst (1 : Int32) d_Path_read_35 (by decide) (mz_iadd d_Path_read_36 (mz_goto 41 d_Path_read_37 rfl (MzS.loc [(0, .ref (mz_ad B (14, x))), (1, .ref (mz_ad B (13, x))), (2, .int y2), (3, .int y3)] ⟨rfl, rfl, rfl, rfl, trivial⟩ (tm_Path_read_41 hF hx  y2 y3 (y2 + (1 : Int32)) M8 hL ((h.2 M8 rfl).2 hc9)))))))))))))
theorem tm_Path_read_23 {G : MzG} {B : MzB} {d : Nat} {K : MzM → Prop} (hF : mzLive false B) {x : Nat} (hx : x < 2)   (y2 : Int32) (y3 : Int32) (M : MzM) (hL : mzLnk false M) (h : wp_Path_read_23 x  K y2 y3 M) : MzS G B (d + 2) mm_Path_read M (0, 0) (mzK0 false B K) 23 [(0, .ref (mz_ad B (14, x))), (1, .ref (mz_ad B (13, x))), (2, .int y2), (3, .int y3)] [.ref (mz_ad B (14, x))] := by
  unfold wp_Path_read_23 at h
  exact (mz_iconst (0 : Int32) d_Path_read_23 (by decide) (MzS.loc [(0, .ref (mz_ad B (14, x))), (1, .ref (mz_ad B (13, x))), (2, .int y2), (3, .int y3)] ⟨rfl, rfl, rfl, rfl, trivial⟩ (tm_Path_read_24 hF hx  y2 y3 (0 : Int32) M hL h)))
theorem tm_Path_read {G : MzG} {B : MzB} {d : Nat} {K : MzM → Prop} (hF : mzLive false B) {x : Nat} (hx : x < 2) {a2 : Int32} {a3 : Int32} {M : MzM} (hL : mzLnk false M) (h : wp_Path_read x a2 a3 M K) : MzC G B (d + 2) mm_Path_read [.ref (mz_ad B (14, x)), .ref (mz_ad B (13, x)), .int a2, .int a3] M (0, 0) (mzK0 false B K) := by
  unfold wp_Path_read at h
  exact MzC.of rfl (Nat.le_of_ble_eq_true rfl) (show MzS G B (d + 2) mm_Path_read M (0, 0) (mzK0 false B K) 0 [(0, .ref (mz_ad B (14, x))), (1, .ref (mz_ad B (13, x))), (2, .int a2), (3, .int a3)] [] from (mz_aload_n d_Path_read_0 rfl (mz_iconst (0 : Int32) d_Path_read_1 (by decide) (mz_putI (k := 1) cl_7 d_Path_read_2 (by decide) wf_Path_15 rfl rfl rfl rfl (hF 14 x rfl hx) rfl (let M1 : MzM := mz_si M (14, x) 1 (0 : Int32); (mz_aload_n d_Path_read_5 rfl (mz_iload_n d_Path_read_6 rfl (mz_iload_n d_Path_read_7 rfl (mz_icmp_ge 23 d_Path_read_8 rfl (fun hc7 => (MzS.loc [(0, .ref (mz_ad B (14, x))), (1, .ref (mz_ad B (13, x))), (2, .int a2), (3, .int a3)] ⟨rfl, rfl, rfl, rfl, trivial⟩ (tm_Path_read_23 hF hx  a2 a3 M1 hL ((h M1 rfl).1 hc7)))) (fun hc7 => (mz_aload_n d_Path_read_11 rfl (mz_iload_n d_Path_read_12 rfl (match ((h M1 rfl).2 hc7) with | ⟨j2, h3, h4, h5⟩ => mz_iald j2 d_Path_read_13 (hF 13 x rfl hx) rfl h3 h4 (mz_bipush (47 : Int32) d_Path_read_14 (by decide) (mz_icmp_ne 23 d_Path_read_16 rfl (fun hc6 => (MzS.loc [(0, .ref (mz_ad B (14, x))), (1, .ref (mz_ad B (13, x))), (2, .int a2), (3, .int a3)] ⟨rfl, rfl, rfl, rfl, trivial⟩ (tm_Path_read_23 hF hx  a2 a3 M1 hL (h5.1 hc6)))) (fun hc6 => (mz_iconst (1 : Int32) d_Path_read_19 (by decide) (mz_goto 24 d_Path_read_20 rfl (MzS.loc [(0, .ref (mz_ad B (14, x))), (1, .ref (mz_ad B (13, x))), (2, .int a2), (3, .int a3)] ⟨rfl, rfl, rfl, rfl, trivial⟩ (tm_Path_read_24 hF hx  a2 a3 (1 : Int32) M1 hL (h5.2 hc6)))))))))))))))))))))
def mm_Lin_commandIs : MzT := (⟨"ParcelLine$LineReader", "commandIs", "(Ljava/lang/String;)Z"⟩, prog_7_method_10_code, 5, (Option.some Jvm.ClassFile.FieldType.boolean))
theorem cs_Lin_commandIs {mm : MzT} : mzCall mm mm_Lin_commandIs 1 := ⟨wn_Lin, wco_Lin_commandIs, by decide +kernel, by decide⟩
theorem d_Lin_commandIs_0 : decode mm_Lin_commandIs.2.1 0 = .ok (.aload_n 1, 1) := by decide +kernel
theorem d_Lin_commandIs_1 : decode mm_Lin_commandIs.2.1 1 = .ok (.invokevirtual 54, 3) := by decide +kernel
theorem d_Lin_commandIs_4 : decode mm_Lin_commandIs.2.1 4 = .ok (.aload_n 0, 1) := by decide +kernel
theorem d_Lin_commandIs_5 : decode mm_Lin_commandIs.2.1 5 = .ok (.getfield 51, 3) := by decide +kernel
theorem d_Lin_commandIs_8 : decode mm_Lin_commandIs.2.1 8 = .ok (.if_icmp .eq 5, 3) := by decide +kernel
theorem d_Lin_commandIs_11 : decode mm_Lin_commandIs.2.1 11 = .ok (.iconst 0, 1) := by decide +kernel
theorem d_Lin_commandIs_12 : decode mm_Lin_commandIs.2.1 12 = .ok (.ireturn, 1) := by decide +kernel
theorem d_Lin_commandIs_13 : decode mm_Lin_commandIs.2.1 13 = .ok (.iconst 0, 1) := by decide +kernel
theorem d_Lin_commandIs_14 : decode mm_Lin_commandIs.2.1 14 = .ok (.istore_n 2, 1) := by decide +kernel
theorem d_Lin_commandIs_15 : decode mm_Lin_commandIs.2.1 15 = .ok (.iload_n 2, 1) := by decide +kernel
theorem d_Lin_commandIs_16 : decode mm_Lin_commandIs.2.1 16 = .ok (.aload_n 0, 1) := by decide +kernel
theorem d_Lin_commandIs_17 : decode mm_Lin_commandIs.2.1 17 = .ok (.getfield 51, 3) := by decide +kernel
theorem d_Lin_commandIs_20 : decode mm_Lin_commandIs.2.1 20 = .ok (.if_icmp .ge 53, 3) := by decide +kernel
theorem d_Lin_commandIs_23 : decode mm_Lin_commandIs.2.1 23 = .ok (.aload_n 0, 1) := by decide +kernel
theorem d_Lin_commandIs_24 : decode mm_Lin_commandIs.2.1 24 = .ok (.getfield 15, 3) := by decide +kernel
theorem d_Lin_commandIs_27 : decode mm_Lin_commandIs.2.1 27 = .ok (.iload_n 2, 1) := by decide +kernel
theorem d_Lin_commandIs_28 : decode mm_Lin_commandIs.2.1 28 = .ok (.iaload, 1) := by decide +kernel
theorem d_Lin_commandIs_29 : decode mm_Lin_commandIs.2.1 29 = .ok (.istore_n 3, 1) := by decide +kernel
theorem d_Lin_commandIs_30 : decode mm_Lin_commandIs.2.1 30 = .ok (.iload_n 3, 1) := by decide +kernel
theorem d_Lin_commandIs_31 : decode mm_Lin_commandIs.2.1 31 = .ok (.bipush 97, 2) := by decide +kernel
theorem d_Lin_commandIs_33 : decode mm_Lin_commandIs.2.1 33 = .ok (.if_icmp .lt 19, 3) := by decide +kernel
theorem d_Lin_commandIs_36 : decode mm_Lin_commandIs.2.1 36 = .ok (.iload_n 3, 1) := by decide +kernel
theorem d_Lin_commandIs_37 : decode mm_Lin_commandIs.2.1 37 = .ok (.bipush 122, 2) := by decide +kernel
theorem d_Lin_commandIs_39 : decode mm_Lin_commandIs.2.1 39 = .ok (.if_icmp .gt 13, 3) := by decide +kernel
theorem d_Lin_commandIs_42 : decode mm_Lin_commandIs.2.1 42 = .ok (.iload_n 3, 1) := by decide +kernel
theorem d_Lin_commandIs_43 : decode mm_Lin_commandIs.2.1 43 = .ok (.bipush 97, 2) := by decide +kernel
theorem d_Lin_commandIs_45 : decode mm_Lin_commandIs.2.1 45 = .ok (.isub, 1) := by decide +kernel
theorem d_Lin_commandIs_46 : decode mm_Lin_commandIs.2.1 46 = .ok (.bipush 65, 2) := by decide +kernel
theorem d_Lin_commandIs_48 : decode mm_Lin_commandIs.2.1 48 = .ok (.iadd, 1) := by decide +kernel
theorem d_Lin_commandIs_49 : decode mm_Lin_commandIs.2.1 49 = .ok (.goto 4, 3) := by decide +kernel
theorem d_Lin_commandIs_52 : decode mm_Lin_commandIs.2.1 52 = .ok (.iload_n 3, 1) := by decide +kernel
theorem d_Lin_commandIs_53 : decode mm_Lin_commandIs.2.1 53 = .ok (.istore 4, 2) := by decide +kernel
theorem d_Lin_commandIs_55 : decode mm_Lin_commandIs.2.1 55 = .ok (.iload 4, 2) := by decide +kernel
theorem d_Lin_commandIs_57 : decode mm_Lin_commandIs.2.1 57 = .ok (.aload_n 1, 1) := by decide +kernel
theorem d_Lin_commandIs_58 : decode mm_Lin_commandIs.2.1 58 = .ok (.iload_n 2, 1) := by decide +kernel
theorem d_Lin_commandIs_59 : decode mm_Lin_commandIs.2.1 59 = .ok (.invokevirtual 59, 3) := by decide +kernel
theorem d_Lin_commandIs_62 : decode mm_Lin_commandIs.2.1 62 = .ok (.if_icmp .eq 5, 3) := by decide +kernel
theorem d_Lin_commandIs_65 : decode mm_Lin_commandIs.2.1 65 = .ok (.iconst 0, 1) := by decide +kernel
theorem d_Lin_commandIs_66 : decode mm_Lin_commandIs.2.1 66 = .ok (.ireturn, 1) := by decide +kernel
theorem d_Lin_commandIs_67 : decode mm_Lin_commandIs.2.1 67 = .ok (.iinc 2 1, 3) := by decide +kernel
theorem d_Lin_commandIs_70 : decode mm_Lin_commandIs.2.1 70 = .ok (.goto (-55), 3) := by decide +kernel
theorem d_Lin_commandIs_73 : decode mm_Lin_commandIs.2.1 73 = .ok (.iconst 1, 1) := by decide +kernel
theorem d_Lin_commandIs_74 : decode mm_Lin_commandIs.2.1 74 = .ok (.ireturn, 1) := by decide +kernel
def wp_Lin_commandIs_53 (x : Nat) (w1 : Nat) (H15 : Int32 → MzM → Prop) (K : Int32 → MzM → Prop) (y2 : Int32) (ys0 : Int32) (M : MzM) : Prop := (∃ j12 : Nat, y2.toInt = (j12 : Int) ∧ j12 < (mzStrB.getD w1 []).length ∧ ((ys0 = ((mzStrB.getD w1 []).getD j12 0) → H15 (y2 + (1 : Int32)) M) ∧ (¬ ys0 = ((mzStrB.getD w1 []).getD j12 0) → K (0 : Int32) M)))
def wp_Lin_commandIs_52 (x : Nat) (w1 : Nat) (H15 : Int32 → MzM → Prop) (K : Int32 → MzM → Prop) (y2 : Int32) (y3 : Int32) (M : MzM) : Prop := wp_Lin_commandIs_53 x w1 H15 K y2 y3 M
def wp_Lin_commandIs_15 (x : Nat) (w1 : Nat)  (K : Int32 → MzM → Prop) : Nat → Int32 → MzM → Prop
  | 0, _, _ => False
  | r0 + 1, y2, M => (((mz_i M (12, x) 6) ≤ y2 → K (1 : Int32) M) ∧ (¬ (mz_i M (12, x) 6) ≤ y2 → (∃ j5 : Nat, y2.toInt = (j5 : Int) ∧ j5 < 30 ∧ (((mz_i M (13, x) j5) < (97 : Int32) → wp_Lin_commandIs_52 x w1 (wp_Lin_commandIs_15 x w1  K r0) K y2 (mz_i M (13, x) j5) M) ∧ (¬ (mz_i M (13, x) j5) < (97 : Int32) → (((122 : Int32) < (mz_i M (13, x) j5) → wp_Lin_commandIs_52 x w1 (wp_Lin_commandIs_15 x w1  K r0) K y2 (mz_i M (13, x) j5) M) ∧ (¬ (122 : Int32) < (mz_i M (13, x) j5) → wp_Lin_commandIs_53 x w1 (wp_Lin_commandIs_15 x w1  K r0) K y2 (((mz_i M (13, x) j5) - (97 : Int32)) + (65 : Int32)) M)))))))
def wp_Lin_commandIs (x : Nat) (w1 : Nat)  (M : MzM) (K : Int32 → MzM → Prop) : Prop := (((Int32.ofNat (mzStrB.getD w1 []).length) = (mz_i M (12, x) 6) → (∃ r2 : Nat, wp_Lin_commandIs_15 x w1  K r2 (0 : Int32) M)) ∧ (¬ (Int32.ofNat (mzStrB.getD w1 []).length) = (mz_i M (12, x) 6) → K (0 : Int32) M))
theorem tm_Lin_commandIs_53 {G : MzG} {B : MzB} {d : Nat} {K : Int32 → MzM → Prop} (hF : mzLive false B) {x : Nat} {w1 : Nat} (hx : x < 2) (hw1 : w1 < 44) {H15 : Int32 → MzM → Prop} (hH15 : ∀ (y2 : Int32) (M : MzM), mzLnk false M → H15 y2 M → MzS G B (d + 4) mm_Lin_commandIs M (0, 0) (mzK1 false B K) 15 [(0, .ref (mz_ad B (12, x))), (1, .ref (G.2 (100 + w1))), (2, .int y2)] []) (y2 : Int32) (ys0 : Int32) (M : MzM) (hL : mzLnk false M) (h : wp_Lin_commandIs_53 x w1 H15 K y2 ys0 M) : MzS G B (d + 4) mm_Lin_commandIs M (0, 0) (mzK1 false B K) 53 [(0, .ref (mz_ad B (12, x))), (1, .ref (G.2 (100 + w1))), (2, .int y2)] [.int ys0] := by
  unfold wp_Lin_commandIs_53 at h
  exact (mz_istore d_Lin_commandIs_53 (by decide) (mz_iload d_Lin_commandIs_55 rfl (mz_aload_n d_Lin_commandIs_57 rfl (mz_iload_n d_Lin_commandIs_58 rfl (match h with | ⟨j12, h13, h14, h15⟩ => mz_callR (As := [.int y2]) (st := [.int ys0]) 0 0 d_Lin_commandIs_59 cs_JS_charAt wl_Lin_59 wi_JS_charAt wse_JS_charAt (fun A s hr => (mz_u hr (mz_strIn hw1)).1) (Nat.le_of_ble_eq_true rfl) (Nat.zero_le _) (Nat.zero_le _) (MzC.mono (tm_JS_charAt (d := d) (K := fun v9 M9 => v9 = ((mzStrB.getD w1 []).getD j12 0) ∧ M = M9) hw1 j12 h13 h14 hL ⟨rfl, rfl⟩) (fun r9 B9 M9 hq9 => by obtain ⟨rfl, hL16, v9, rfl, rfl, rfl⟩ := hq9; exact ⟨_, rfl, (mz_icmp_eq 67 d_Lin_commandIs_62 rfl (fun hc17 => (mz_iinc (y2 + (1 : Int32)) d_Lin_commandIs_67 rfl (by decide) rfl (mz_goto 15 d_Lin_commandIs_70 rfl (MzS.loc [(0, .ref (mz_ad B (12, x))), (1, .ref (G.2 (100 + w1))), (2, .int (y2 + (1 : Int32)))] ⟨rfl, rfl, rfl, trivial⟩ (hH15 (y2 + (1 : Int32)) M hL16 (h15.1 hc17)))))) (fun hc17 => (mz_iconst (0 : Int32) d_Lin_commandIs_65 (by decide) (mz_iret .boolean d_Lin_commandIs_66 rfl rfl ⟨rfl, hL16, _, rfl, (h15.2 hc17)⟩))))⟩)))))))
theorem tm_Lin_commandIs_52 {G : MzG} {B : MzB} {d : Nat} {K : Int32 → MzM → Prop} (hF : mzLive false B) {x : Nat} {w1 : Nat} (hx : x < 2) (hw1 : w1 < 44) {H15 : Int32 → MzM → Prop} (hH15 : ∀ (y2 : Int32) (M : MzM), mzLnk false M → H15 y2 M → MzS G B (d + 4) mm_Lin_commandIs M (0, 0) (mzK1 false B K) 15 [(0, .ref (mz_ad B (12, x))), (1, .ref (G.2 (100 + w1))), (2, .int y2)] []) (y2 : Int32) (y3 : Int32) (M : MzM) (hL : mzLnk false M) (h : wp_Lin_commandIs_52 x w1 H15 K y2 y3 M) : MzS G B (d + 4) mm_Lin_commandIs M (0, 0) (mzK1 false B K) 52 [(0, .ref (mz_ad B (12, x))), (1, .ref (G.2 (100 + w1))), (2, .int y2), (3, .int y3)] [] := by
  unfold wp_Lin_commandIs_52 at h
  exact (mz_iload_n d_Lin_commandIs_52 rfl (MzS.loc [(0, .ref (mz_ad B (12, x))), (1, .ref (G.2 (100 + w1))), (2, .int y2)] ⟨rfl, rfl, rfl, trivial⟩ (tm_Lin_commandIs_53 hF hx hw1 hH15 y2 y3 M hL h)))
theorem tm_Lin_commandIs_15 {G : MzG} {B : MzB} {d : Nat} {K : Int32 → MzM → Prop} (hF : mzLive false B) {x : Nat} {w1 : Nat} (hx : x < 2) (hw1 : w1 < 44)   : ∀ (r0 : Nat) (y2 : Int32) (M : MzM), mzLnk false M → wp_Lin_commandIs_15 x w1  K r0 y2 M → MzS G B (d + 4) mm_Lin_commandIs M (0, 0) (mzK1 false B K) 15 [(0, .ref (mz_ad B (12, x))), (1, .ref (G.2 (100 + w1))), (2, .int y2)] [] := by
  intro r0
  induction r0 with
  | zero => intro y2 M hL h; exact False.elim h
  | succ r0 hH15 =>
    intro y2 M hL h
    unfold wp_Lin_commandIs_15 at h
    exact (mz_iload_n d_Lin_commandIs_15 rfl (mz_aload_n d_Lin_commandIs_16 rfl (mz_getI (k := 6) cl_6 d_Lin_commandIs_17 (by decide) wf_Lin_51 rfl (hF 12 x rfl hx) rfl (mz_icmp_ge 73 d_Lin_commandIs_20 rfl (fun hc11 => (mz_iconst (1 : Int32) d_Lin_commandIs_73 (by decide) (mz_iret .boolean d_Lin_commandIs_74 rfl rfl ⟨rfl, hL, _, rfl, (h.1 hc11)⟩))) (fun hc11 => (mz_aload_n d_Lin_commandIs_23 rfl (mz_getR (k := 1) (a := (13, x)) cl_6 d_Lin_commandIs_24 (by decide) wf_Lin_15 rfl (hF 12 x rfl hx) rfl (hL (12, x) 1 (13, x) rfl rfl hx) (mz_iload_n d_Lin_commandIs_27 rfl (match (h.2 hc11) with | ⟨j5, h6, h7, h8⟩ => mz_iald j5 d_Lin_commandIs_28 (hF 13 x rfl hx) rfl h6 h7 (mz_istore_n d_Lin_commandIs_29 (by decide) (mz_iload_n d_Lin_commandIs_30 rfl (mz_bipush (97 : Int32) d_Lin_commandIs_31 (by decide) (mz_icmp_lt 52 d_Lin_commandIs_33 rfl (fun hc10 => (MzS.loc [(0, .ref (mz_ad B (12, x))), (1, .ref (G.2 (100 + w1))), (2, .int y2), (3, .int (mz_i M (13, x) j5))] ⟨rfl, rfl, rfl, rfl, trivial⟩ (tm_Lin_commandIs_52 hF hx hw1 hH15 y2 (mz_i M (13, x) j5) M hL (h8.1 hc10)))) (fun hc10 => (mz_iload_n d_Lin_commandIs_36 rfl (mz_bipush (122 : Int32) d_Lin_commandIs_37 (by decide) (mz_icmp_gt 52 d_Lin_commandIs_39 rfl (fun hc9 => (MzS.loc [(0, .ref (mz_ad B (12, x))), (1, .ref (G.2 (100 + w1))), (2, .int y2), (3, .int (mz_i M (13, x) j5))] ⟨rfl, rfl, rfl, rfl, trivial⟩ (tm_Lin_commandIs_52 hF hx hw1 hH15 y2 (mz_i M (13, x) j5) M hL ((h8.2 hc10).1 hc9)))) (fun hc9 => (mz_iload_n d_Lin_commandIs_42 rfl (mz_bipush (97 : Int32) d_Lin_commandIs_43 (by decide) (mz_isub d_Lin_commandIs_45 (mz_bipush (65 : Int32) d_Lin_commandIs_46 (by decide) (mz_iadd d_Lin_commandIs_48 (mz_goto 53 d_Lin_commandIs_49 rfl (MzS.loc [(0, .ref (mz_ad B (12, x))), (1, .ref (G.2 (100 + w1))), (2, .int y2)] ⟨rfl, rfl, rfl, trivial⟩ (tm_Lin_commandIs_53 hF hx hw1 hH15 y2 (((mz_i M (13, x) j5) - (97 : Int32)) + (65 : Int32)) M hL ((h8.2 hc10).2 hc9)))))))))))))))))))))))))))
theorem tm_Lin_commandIs {G : MzG} {B : MzB} {d : Nat} {K : Int32 → MzM → Prop} (hF : mzLive false B) {x : Nat} {w1 : Nat} (hx : x < 2) (hw1 : w1 < 44)  {M : MzM} (hL : mzLnk false M) (h : wp_Lin_commandIs x w1  M K) : MzC G B (d + 4) mm_Lin_commandIs [.ref (mz_ad B (12, x)), .ref (G.2 (100 + w1))] M (0, 0) (mzK1 false B K) := by
  unfold wp_Lin_commandIs at h
  exact MzC.of rfl (Nat.le_of_ble_eq_true rfl) (show MzS G B (d + 4) mm_Lin_commandIs M (0, 0) (mzK1 false B K) 0 [(0, .ref (mz_ad B (12, x))), (1, .ref (G.2 (100 + w1)))] [] from (mz_aload_n d_Lin_commandIs_0 rfl (mz_callR (As := []) (st := []) 0 0 d_Lin_commandIs_1 cs_JS_length wl_Lin_54 wi_JS_length wse_JS_length (fun A s hr => (mz_u hr (mz_strIn hw1)).1) (Nat.le_of_ble_eq_true rfl) (Nat.zero_le _) (Nat.zero_le _) (MzC.mono (tm_JS_length (d := (d + 2)) (K := fun v9 M9 => v9 = (Int32.ofNat (mzStrB.getD w1 []).length) ∧ M = M9) hw1 hL ⟨rfl, rfl⟩) (fun r9 B9 M9 hq9 => by obtain ⟨rfl, hL1, v9, rfl, rfl, rfl⟩ := hq9; exact ⟨_, rfl, (mz_aload_n d_Lin_commandIs_4 rfl (mz_getI (k := 6) cl_6 d_Lin_commandIs_5 (by decide) wf_Lin_51 rfl (hF 12 x rfl hx) rfl (mz_icmp_eq 13 d_Lin_commandIs_8 rfl (fun hc4 => (mz_iconst (0 : Int32) d_Lin_commandIs_13 (by decide) (mz_istore_n d_Lin_commandIs_14 (by decide) (MzS.loc [(0, .ref (mz_ad B (12, x))), (1, .ref (G.2 (100 + w1))), (2, .int (0 : Int32))] ⟨rfl, rfl, rfl, trivial⟩ (match (h.1 hc4) with | ⟨r2, h3⟩ => tm_Lin_commandIs_15 hF hx hw1  r2 (0 : Int32) M hL1 h3))))) (fun hc4 => (mz_iconst (0 : Int32) d_Lin_commandIs_11 (by decide) (mz_iret .boolean d_Lin_commandIs_12 rfl rfl ⟨rfl, hL1, _, rfl, (h.2 hc4)⟩))))))⟩)))))
def mm_Ses_recognise : MzT := (⟨"ParcelLine$Session", "recognise", "()LParcelLine$Command;"⟩, prog_11_method_10_code, 2, (Option.some (Jvm.ClassFile.FieldType.object "ParcelLine$Command")))
theorem cs_Ses_recognise {mm : MzT} : mzCall mm mm_Ses_recognise 0 := ⟨wn_Ses, wco_Ses_recognise, by decide +kernel, by decide⟩
theorem d_Ses_recognise_0 : decode mm_Ses_recognise.2.1 0 = .ok (.iconst 0, 1) := by decide +kernel
theorem d_Ses_recognise_1 : decode mm_Ses_recognise.2.1 1 = .ok (.istore_n 1, 1) := by decide +kernel
theorem d_Ses_recognise_2 : decode mm_Ses_recognise.2.1 2 = .ok (.iload_n 1, 1) := by decide +kernel
theorem d_Ses_recognise_3 : decode mm_Ses_recognise.2.1 3 = .ok (.getstatic 201, 3) := by decide +kernel
theorem d_Ses_recognise_6 : decode mm_Ses_recognise.2.1 6 = .ok (.arraylength, 1) := by decide +kernel
theorem d_Ses_recognise_7 : decode mm_Ses_recognise.2.1 7 = .ok (.if_icmp .ge 33, 3) := by decide +kernel
theorem d_Ses_recognise_10 : decode mm_Ses_recognise.2.1 10 = .ok (.aload_n 0, 1) := by decide +kernel
theorem d_Ses_recognise_11 : decode mm_Ses_recognise.2.1 11 = .ok (.getfield 31, 3) := by decide +kernel
theorem d_Ses_recognise_14 : decode mm_Ses_recognise.2.1 14 = .ok (.getstatic 201, 3) := by decide +kernel
theorem d_Ses_recognise_17 : decode mm_Ses_recognise.2.1 17 = .ok (.iload_n 1, 1) := by decide +kernel
theorem d_Ses_recognise_18 : decode mm_Ses_recognise.2.1 18 = .ok (.aaload, 1) := by decide +kernel
theorem d_Ses_recognise_19 : decode mm_Ses_recognise.2.1 19 = .ok (.getfield 205, 3) := by decide +kernel
theorem d_Ses_recognise_22 : decode mm_Ses_recognise.2.1 22 = .ok (.invokevirtual 209, 3) := by decide +kernel
theorem d_Ses_recognise_25 : decode mm_Ses_recognise.2.1 25 = .ok (.ifCond .eq 9, 3) := by decide +kernel
theorem d_Ses_recognise_28 : decode mm_Ses_recognise.2.1 28 = .ok (.getstatic 201, 3) := by decide +kernel
theorem d_Ses_recognise_31 : decode mm_Ses_recognise.2.1 31 = .ok (.iload_n 1, 1) := by decide +kernel
theorem d_Ses_recognise_32 : decode mm_Ses_recognise.2.1 32 = .ok (.aaload, 1) := by decide +kernel
theorem d_Ses_recognise_33 : decode mm_Ses_recognise.2.1 33 = .ok (.areturn, 1) := by decide +kernel
theorem d_Ses_recognise_34 : decode mm_Ses_recognise.2.1 34 = .ok (.iinc 1 1, 3) := by decide +kernel
theorem d_Ses_recognise_37 : decode mm_Ses_recognise.2.1 37 = .ok (.goto (-35), 3) := by decide +kernel
theorem d_Ses_recognise_40 : decode mm_Ses_recognise.2.1 40 = .ok (.aconst_null, 1) := by decide +kernel
theorem d_Ses_recognise_41 : decode mm_Ses_recognise.2.1 41 = .ok (.areturn, 1) := by decide +kernel
def wp_Ses_recognise_2 (x : Nat)  (K : Option Nat → MzM → Prop) : Nat → Int32 → MzM → Prop
  | 0, _, _ => False
  | r0 + 1, y1, M => (((21 : Int32) ≤ y1 → K none M) ∧ (¬ (21 : Int32) ≤ y1 → (∃ j3 : Nat, y1.toInt = (j3 : Int) ∧ j3 < 21 ∧ wp_Lin_commandIs x (mzCmdW.getD j3 0)  M (fun v10 M7 => ((v10 = 0 → (wp_Ses_recognise_2 x  K r0) (y1 + (1 : Int32)) M7) ∧ (¬ v10 = 0 → (∃ j11 : Nat, y1.toInt = (j11 : Int) ∧ j11 < 21 ∧ K (some j11) M7)))))))
def wp_Ses_recognise (x : Nat)  (M : MzM) (K : Option Nat → MzM → Prop) : Prop := (∃ r1 : Nat, wp_Ses_recognise_2 x  K r1 (0 : Int32) M)
theorem tm_Ses_recognise_2 {G : MzG} {B : MzB} {d : Nat} {K : Option Nat → MzM → Prop} (hF : mzLive false B) {x : Nat} (hx : x < 2)   : ∀ (r0 : Nat) (y1 : Int32) (M : MzM), mzLnk false M → wp_Ses_recognise_2 x  K r0 y1 M → MzS G B (d + 5) mm_Ses_recognise M (0, 0) (mzKc false G B K) 2 [(0, .ref (mz_ad B (8, x))), (1, .int y1)] [] := by
  intro r0
  induction r0 with
  | zero => intro y1 M hL h; exact False.elim h
  | succ r0 hH2 =>
    intro y1 M hL h
    unfold wp_Ses_recognise_2 at h
    exact (mz_iload_n d_Ses_recognise_2 rfl (mz_getsN d_Ses_recognise_3 wf_Ses_201 (fun A s hr => (mz_u hr (mz_fixIn 3 rfl)).1) (mz_rlen (21 : Int32) d_Ses_recognise_6 (fun A s hr => (mz_u hr (mz_fixIn 3 rfl)).2) (by decide) (mz_icmp_ge 40 d_Ses_recognise_7 rfl (fun hc16 => (mz_null d_Ses_recognise_40 (mz_aret (.object "ParcelLine$Command") d_Ses_recognise_41 rfl (Or.inl ⟨_, rfl⟩) (Or.inl rfl) ⟨rfl, hL, none, (fun c9 h9 => by cases h9), rfl, (h.1 hc16)⟩))) (fun hc16 => (mz_aload_n d_Ses_recognise_10 rfl (mz_getR (k := 3) (a := (12, x)) cl_4 d_Ses_recognise_11 (by decide) wf_Ses_31 rfl (hF 8 x rfl hx) rfl (hL (8, x) 3 (12, x) rfl rfl hx) (mz_getsN d_Ses_recognise_14 wf_Ses_201 (fun A s hr => (mz_u hr (mz_fixIn 3 rfl)).1) (mz_iload_n d_Ses_recognise_17 rfl (match (h.2 hc16) with | ⟨j3, h4, h5, h6⟩ => mz_raald j3 d_Ses_recognise_18 (fun A s hr => (mz_u hr (mz_fixIn 3 rfl)).2) h4 h5 rfl (mz_getFN d_Ses_recognise_19 wf_Ses_205 (fun A s hr => (mz_u hr (mz_cmdIn h5)).2.2.1) (mz_callV (As := [.ref (G.2 (100 + (mzCmdW.getD j3 0)))]) (st := []) (hF 12 x rfl hx) rfl (mzClOf cl_6) 0 0 d_Ses_recognise_22 cs_Lin_commandIs wl_Ses_209 wi_Lin_commandIs wse_Lin_commandIs (Nat.le_of_ble_eq_true rfl) (Nat.zero_le _) (Nat.zero_le _) (MzC.mono (tm_Lin_commandIs (d := d) hF hx (mz_cmdW h5) hL h6) (fun r9 B9 M7 hq9 => by obtain ⟨rfl, hL8, v10, rfl, hq9⟩ := hq9; exact ⟨_, rfl, (mz_if_eq 34 d_Ses_recognise_25 rfl (fun hc15 => (mz_iinc (y1 + (1 : Int32)) d_Ses_recognise_34 rfl (by decide) rfl (mz_goto 2 d_Ses_recognise_37 rfl (MzS.loc [(0, .ref (mz_ad B (8, x))), (1, .int (y1 + (1 : Int32)))] ⟨rfl, rfl, trivial⟩ (hH2 (y1 + (1 : Int32)) M7 hL8 (hq9.1 hc15)))))) (fun hc15 => (mz_getsN d_Ses_recognise_28 wf_Ses_201 (fun A s hr => (mz_u hr (mz_fixIn 3 rfl)).1) (mz_iload_n d_Ses_recognise_31 rfl (match (hq9.2 hc15) with | ⟨j11, h12, h13, h14⟩ => mz_raald j11 d_Ses_recognise_32 (fun A s hr => (mz_u hr (mz_fixIn 3 rfl)).2) h12 h13 rfl (mz_aret (.object "ParcelLine$Command") d_Ses_recognise_33 rfl (Or.inl ⟨_, rfl⟩) (Or.inr ⟨_, rfl⟩) ⟨rfl, hL8, some j11, (fun c9 h9 => by cases h9; exact h13), rfl, h14⟩))))))⟩))))))))))))))
theorem tm_Ses_recognise {G : MzG} {B : MzB} {d : Nat} {K : Option Nat → MzM → Prop} (hF : mzLive false B) {x : Nat} (hx : x < 2)  {M : MzM} (hL : mzLnk false M) (h : wp_Ses_recognise x  M K) : MzC G B (d + 5) mm_Ses_recognise [.ref (mz_ad B (8, x))] M (0, 0) (mzKc false G B K) := by
  unfold wp_Ses_recognise at h
  exact MzC.of rfl (Nat.le_of_ble_eq_true rfl) (show MzS G B (d + 5) mm_Ses_recognise M (0, 0) (mzKc false G B K) 0 [(0, .ref (mz_ad B (8, x)))] [] from (mz_iconst (0 : Int32) d_Ses_recognise_0 (by decide) (mz_istore_n d_Ses_recognise_1 (by decide) (MzS.loc [(0, .ref (mz_ad B (8, x))), (1, .int (0 : Int32))] ⟨rfl, rfl, trivial⟩ (match h with | ⟨r1, h2⟩ => tm_Ses_recognise_2 hF hx  r1 (0 : Int32) M hL h2)))))
def mm_Lin_hasArgument : MzT := (⟨"ParcelLine$LineReader", "hasArgument", "()Z"⟩, prog_7_method_9_code, 1, (Option.some Jvm.ClassFile.FieldType.boolean))
theorem cs_Lin_hasArgument {mm : MzT} : mzCall mm mm_Lin_hasArgument 0 := ⟨wn_Lin, wco_Lin_hasArgument, by decide +kernel, by decide⟩
theorem d_Lin_hasArgument_0 : decode mm_Lin_hasArgument.2.1 0 = .ok (.aload_n 0, 1) := by decide +kernel
theorem d_Lin_hasArgument_1 : decode mm_Lin_hasArgument.2.1 1 = .ok (.getfield 51, 3) := by decide +kernel
theorem d_Lin_hasArgument_4 : decode mm_Lin_hasArgument.2.1 4 = .ok (.aload_n 0, 1) := by decide +kernel
theorem d_Lin_hasArgument_5 : decode mm_Lin_hasArgument.2.1 5 = .ok (.getfield 30, 3) := by decide +kernel
theorem d_Lin_hasArgument_8 : decode mm_Lin_hasArgument.2.1 8 = .ok (.if_icmp .ge 7, 3) := by decide +kernel
theorem d_Lin_hasArgument_11 : decode mm_Lin_hasArgument.2.1 11 = .ok (.iconst 1, 1) := by decide +kernel
theorem d_Lin_hasArgument_12 : decode mm_Lin_hasArgument.2.1 12 = .ok (.goto 4, 3) := by decide +kernel
theorem d_Lin_hasArgument_15 : decode mm_Lin_hasArgument.2.1 15 = .ok (.iconst 0, 1) := by decide +kernel
theorem d_Lin_hasArgument_16 : decode mm_Lin_hasArgument.2.1 16 = .ok (.ireturn, 1) := by decide +kernel
def wp_Lin_hasArgument (x : Nat)  (M : MzM) (K : Int32 → MzM → Prop) : Prop := (((mz_i M (12, x) 2) ≤ (mz_i M (12, x) 6) → K (0 : Int32) M) ∧ (¬ (mz_i M (12, x) 2) ≤ (mz_i M (12, x) 6) → K (1 : Int32) M))
theorem tm_Lin_hasArgument {G : MzG} {B : MzB} {d : Nat} {K : Int32 → MzM → Prop} (hF : mzLive false B) {x : Nat} (hx : x < 2)  {M : MzM} (hL : mzLnk false M) (h : wp_Lin_hasArgument x  M K) : MzC G B d mm_Lin_hasArgument [.ref (mz_ad B (12, x))] M (0, 0) (mzK1 false B K) := by
  unfold wp_Lin_hasArgument at h
  exact MzC.of rfl (Nat.le_of_ble_eq_true rfl) (show MzS G B d mm_Lin_hasArgument M (0, 0) (mzK1 false B K) 0 [(0, .ref (mz_ad B (12, x)))] [] from (mz_aload_n d_Lin_hasArgument_0 rfl (mz_getI (k := 6) cl_6 d_Lin_hasArgument_1 (by decide) wf_Lin_51 rfl (hF 12 x rfl hx) rfl (mz_aload_n d_Lin_hasArgument_4 rfl (mz_getI (k := 2) cl_6 d_Lin_hasArgument_5 (by decide) wf_Lin_30 rfl (hF 12 x rfl hx) rfl (mz_icmp_ge 15 d_Lin_hasArgument_8 rfl (fun hc1 => (mz_iconst (0 : Int32) d_Lin_hasArgument_15 (by decide) (mz_iret .boolean d_Lin_hasArgument_16 rfl rfl ⟨rfl, hL, _, rfl, (h.1 hc1)⟩))) (fun hc1 => (mz_iconst (1 : Int32) d_Lin_hasArgument_11 (by decide) (mz_goto 16 d_Lin_hasArgument_12 rfl (mz_iret .boolean d_Lin_hasArgument_16 rfl rfl ⟨rfl, hL, _, rfl, (h.2 hc1)⟩))))))))))
