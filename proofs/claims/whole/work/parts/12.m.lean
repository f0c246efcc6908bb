def mm_Lin_argumentIs : MzT := (⟨"ParcelLine$LineReader", "argumentIs", "(Ljava/lang/String;)Z"⟩, prog_7_method_11_code, 4, (Option.some Jvm.ClassFile.FieldType.boolean))
theorem cs_Lin_argumentIs {mm : MzT} : mzCall mm mm_Lin_argumentIs 1 := ⟨wn_Lin, wco_Lin_argumentIs, by decide +kernel, by decide⟩
theorem d_Lin_argumentIs_0 : decode mm_Lin_argumentIs.2.1 0 = .ok (.aload_n 0, 1) := by decide +kernel
theorem d_Lin_argumentIs_1 : decode mm_Lin_argumentIs.2.1 1 = .ok (.getfield 51, 3) := by decide +kernel
theorem d_Lin_argumentIs_4 : decode mm_Lin_argumentIs.2.1 4 = .ok (.iconst 1, 1) := by decide +kernel
theorem d_Lin_argumentIs_5 : decode mm_Lin_argumentIs.2.1 5 = .ok (.iadd, 1) := by decide +kernel
theorem d_Lin_argumentIs_6 : decode mm_Lin_argumentIs.2.1 6 = .ok (.istore_n 2, 1) := by decide +kernel
theorem d_Lin_argumentIs_7 : decode mm_Lin_argumentIs.2.1 7 = .ok (.aload_n 0, 1) := by decide +kernel
theorem d_Lin_argumentIs_8 : decode mm_Lin_argumentIs.2.1 8 = .ok (.getfield 30, 3) := by decide +kernel
theorem d_Lin_argumentIs_11 : decode mm_Lin_argumentIs.2.1 11 = .ok (.iload_n 2, 1) := by decide +kernel
theorem d_Lin_argumentIs_12 : decode mm_Lin_argumentIs.2.1 12 = .ok (.isub, 1) := by decide +kernel
theorem d_Lin_argumentIs_13 : decode mm_Lin_argumentIs.2.1 13 = .ok (.aload_n 1, 1) := by decide +kernel
theorem d_Lin_argumentIs_14 : decode mm_Lin_argumentIs.2.1 14 = .ok (.invokevirtual 54, 3) := by decide +kernel
theorem d_Lin_argumentIs_17 : decode mm_Lin_argumentIs.2.1 17 = .ok (.if_icmp .eq 5, 3) := by decide +kernel
theorem d_Lin_argumentIs_20 : decode mm_Lin_argumentIs.2.1 20 = .ok (.iconst 0, 1) := by decide +kernel
theorem d_Lin_argumentIs_21 : decode mm_Lin_argumentIs.2.1 21 = .ok (.ireturn, 1) := by decide +kernel
theorem d_Lin_argumentIs_22 : decode mm_Lin_argumentIs.2.1 22 = .ok (.iconst 0, 1) := by decide +kernel
theorem d_Lin_argumentIs_23 : decode mm_Lin_argumentIs.2.1 23 = .ok (.istore_n 3, 1) := by decide +kernel
theorem d_Lin_argumentIs_24 : decode mm_Lin_argumentIs.2.1 24 = .ok (.iload_n 2, 1) := by decide +kernel
theorem d_Lin_argumentIs_25 : decode mm_Lin_argumentIs.2.1 25 = .ok (.iload_n 3, 1) := by decide +kernel
theorem d_Lin_argumentIs_26 : decode mm_Lin_argumentIs.2.1 26 = .ok (.iadd, 1) := by decide +kernel
theorem d_Lin_argumentIs_27 : decode mm_Lin_argumentIs.2.1 27 = .ok (.aload_n 0, 1) := by decide +kernel
theorem d_Lin_argumentIs_28 : decode mm_Lin_argumentIs.2.1 28 = .ok (.getfield 30, 3) := by decide +kernel
theorem d_Lin_argumentIs_31 : decode mm_Lin_argumentIs.2.1 31 = .ok (.if_icmp .ge 27, 3) := by decide +kernel
theorem d_Lin_argumentIs_34 : decode mm_Lin_argumentIs.2.1 34 = .ok (.aload_n 0, 1) := by decide +kernel
theorem d_Lin_argumentIs_35 : decode mm_Lin_argumentIs.2.1 35 = .ok (.getfield 15, 3) := by decide +kernel
theorem d_Lin_argumentIs_38 : decode mm_Lin_argumentIs.2.1 38 = .ok (.iload_n 2, 1) := by decide +kernel
theorem d_Lin_argumentIs_39 : decode mm_Lin_argumentIs.2.1 39 = .ok (.iload_n 3, 1) := by decide +kernel
theorem d_Lin_argumentIs_40 : decode mm_Lin_argumentIs.2.1 40 = .ok (.iadd, 1) := by decide +kernel
theorem d_Lin_argumentIs_41 : decode mm_Lin_argumentIs.2.1 41 = .ok (.iaload, 1) := by decide +kernel
theorem d_Lin_argumentIs_42 : decode mm_Lin_argumentIs.2.1 42 = .ok (.aload_n 1, 1) := by decide +kernel
theorem d_Lin_argumentIs_43 : decode mm_Lin_argumentIs.2.1 43 = .ok (.iload_n 3, 1) := by decide +kernel
theorem d_Lin_argumentIs_44 : decode mm_Lin_argumentIs.2.1 44 = .ok (.invokevirtual 59, 3) := by decide +kernel
theorem d_Lin_argumentIs_47 : decode mm_Lin_argumentIs.2.1 47 = .ok (.if_icmp .eq 5, 3) := by decide +kernel
theorem d_Lin_argumentIs_50 : decode mm_Lin_argumentIs.2.1 50 = .ok (.iconst 0, 1) := by decide +kernel
theorem d_Lin_argumentIs_51 : decode mm_Lin_argumentIs.2.1 51 = .ok (.ireturn, 1) := by decide +kernel
theorem d_Lin_argumentIs_52 : decode mm_Lin_argumentIs.2.1 52 = .ok (.iinc 3 1, 3) := by decide +kernel
theorem d_Lin_argumentIs_55 : decode mm_Lin_argumentIs.2.1 55 = .ok (.goto (-31), 3) := by decide +kernel
theorem d_Lin_argumentIs_58 : decode mm_Lin_argumentIs.2.1 58 = .ok (.iconst 1, 1) := by decide +kernel
theorem d_Lin_argumentIs_59 : decode mm_Lin_argumentIs.2.1 59 = .ok (.ireturn, 1) := by decide +kernel
def wp_Lin_argumentIs_24 (x : Nat) (w1 : Nat)  (K : Int32 → MzM → Prop) : Nat → Int32 → Int32 → MzM → Prop
  | 0, _, _, _ => False
  | r0 + 1, y2, y3, M => (((mz_i M (12, x) 2) ≤ (y2 + y3) → K (1 : Int32) M) ∧ (¬ (mz_i M (12, x) 2) ≤ (y2 + y3) → (∃ j5 : Nat, (y2 + y3).toInt = (j5 : Int) ∧ j5 < 30 ∧ (∃ j9 : Nat, y3.toInt = (j9 : Int) ∧ j9 < (mzStrB.getD w1 []).length ∧ (((mz_i M (13, x) j5) = ((mzStrB.getD w1 []).getD j9 0) → (wp_Lin_argumentIs_24 x w1  K r0) y2 (y3 + (1 : Int32)) M) ∧ (¬ (mz_i M (13, x) j5) = ((mzStrB.getD w1 []).getD j9 0) → K (0 : Int32) M))))))
def wp_Lin_argumentIs (x : Nat) (w1 : Nat)  (M : MzM) (K : Int32 → MzM → Prop) : Prop := ((((mz_i M (12, x) 2) - ((mz_i M (12, x) 6) + (1 : Int32))) = (Int32.ofNat (mzStrB.getD w1 []).length) → (∃ r2 : Nat, wp_Lin_argumentIs_24 x w1  K r2 ((mz_i M (12, x) 6) + (1 : Int32)) (0 : Int32) M)) ∧ (¬ ((mz_i M (12, x) 2) - ((mz_i M (12, x) 6) + (1 : Int32))) = (Int32.ofNat (mzStrB.getD w1 []).length) → K (0 : Int32) M))
theorem tm_Lin_argumentIs_24 {G : MzG} {B : MzB} {d : Nat} {K : Int32 → MzM → Prop} (hF : mzLive false B) {x : Nat} {w1 : Nat} (hx : x < 2) (hw1 : w1 < 44)   : ∀ (r0 : Nat) (y2 : Int32) (y3 : Int32) (M : MzM), mzLnk false M → wp_Lin_argumentIs_24 x w1  K r0 y2 y3 M → MzS G B (d + 4) mm_Lin_argumentIs M (0, 0) (mzK1 false B K) 24 [(0, .ref (mz_ad B (12, x))), (1, .ref (G.2 (100 + w1))), (2, .int y2), (3, .int y3)] [] := by
  intro r0
  induction r0 with
  | zero => intro y2 y3 M hL h; exact False.elim h
  | succ r0 hH24 =>
    intro y2 y3 M hL h
    unfold wp_Lin_argumentIs_24 at h
    exact (mz_iload_n d_Lin_argumentIs_24 rfl (mz_iload_n d_Lin_argumentIs_25 rfl (mz_iadd d_Lin_argumentIs_26 (mz_aload_n d_Lin_argumentIs_27 rfl (mz_getI (k := 2) cl_6 d_Lin_argumentIs_28 (by decide) wf_Lin_30 rfl (hF 12 x rfl hx) rfl (mz_icmp_ge 58 d_Lin_argumentIs_31 rfl (fun hc15 => (mz_iconst (1 : Int32) d_Lin_argumentIs_58 (by decide) (mz_iret .boolean d_Lin_argumentIs_59 rfl rfl ⟨rfl, hL, _, rfl, (h.1 hc15)⟩))) (fun hc15 => (mz_aload_n d_Lin_argumentIs_34 rfl (mz_getR (k := 1) (a := (13, x)) cl_6 d_Lin_argumentIs_35 (by decide) wf_Lin_15 rfl (hF 12 x rfl hx) rfl (hL (12, x) 1 (13, x) rfl rfl hx) (mz_iload_n d_Lin_argumentIs_38 rfl (mz_iload_n d_Lin_argumentIs_39 rfl (mz_iadd d_Lin_argumentIs_40 (match (h.2 hc15) with | ⟨j5, h6, h7, h8⟩ => mz_iald j5 d_Lin_argumentIs_41 (hF 13 x rfl hx) rfl h6 h7 (mz_aload_n d_Lin_argumentIs_42 rfl (mz_iload_n d_Lin_argumentIs_43 rfl (match h8 with | ⟨j9, h10, h11, h12⟩ => mz_callR (As := [.int y3]) (st := [.int (mz_i M (13, x) j5)]) 0 0 d_Lin_argumentIs_44 cs_JS_charAt wl_Lin_59 wi_JS_charAt wse_JS_charAt (fun A s hr => (mz_u hr (mz_strIn hw1)).1) (Nat.le_of_ble_eq_true rfl) (Nat.zero_le _) (Nat.zero_le _) (MzC.mono (tm_JS_charAt (d := d) (K := fun v9 M9 => v9 = ((mzStrB.getD w1 []).getD j9 0) ∧ M = M9) hw1 j9 h10 h11 hL ⟨rfl, rfl⟩) (fun r9 B9 M9 hq9 => by obtain ⟨rfl, hL13, v9, rfl, rfl, rfl⟩ := hq9; exact ⟨_, rfl, (mz_icmp_eq 52 d_Lin_argumentIs_47 rfl (fun hc14 => (mz_iinc (y3 + (1 : Int32)) d_Lin_argumentIs_52 rfl (by decide) rfl (mz_goto 24 d_Lin_argumentIs_55 rfl (MzS.loc [(0, .ref (mz_ad B (12, x))), (1, .ref (G.2 (100 + w1))), (2, .int y2), (3, .int (y3 + (1 : Int32)))] ⟨rfl, rfl, rfl, rfl, trivial⟩ (hH24 y2 (y3 + (1 : Int32)) M hL13 (h12.1 hc14)))))) (fun hc14 => (mz_iconst (0 : Int32) d_Lin_argumentIs_50 (by decide) (mz_iret .boolean d_Lin_argumentIs_51 rfl rfl ⟨rfl, hL13, _, rfl, (h12.2 hc14)⟩))))⟩))))))))))))))))))
theorem tm_Lin_argumentIs {G : MzG} {B : MzB} {d : Nat} {K : Int32 → MzM → Prop} (hF : mzLive false B) {x : Nat} {w1 : Nat} (hx : x < 2) (hw1 : w1 < 44)  {M : MzM} (hL : mzLnk false M) (h : wp_Lin_argumentIs x w1  M K) : MzC G B (d + 4) mm_Lin_argumentIs [.ref (mz_ad B (12, x)), .ref (G.2 (100 + w1))] M (0, 0) (mzK1 false B K) := by
  unfold wp_Lin_argumentIs at h
  exact MzC.of rfl (Nat.le_of_ble_eq_true rfl) (show MzS G B (d + 4) mm_Lin_argumentIs M (0, 0) (mzK1 false B K) 0 [(0, .ref (mz_ad B (12, x))), (1, .ref (G.2 (100 + w1)))] [] from (mz_aload_n d_Lin_argumentIs_0 rfl (mz_getI (k := 6) cl_6 d_Lin_argumentIs_1 (by decide) wf_Lin_51 rfl (hF 12 x rfl hx) rfl (mz_iconst (1 : Int32) d_Lin_argumentIs_4 (by decide) (mz_iadd d_Lin_argumentIs_5 (mz_istore_n d_Lin_argumentIs_6 (by decide) (mz_aload_n d_Lin_argumentIs_7 rfl (mz_getI (k := 2) cl_6 d_Lin_argumentIs_8 (by decide) wf_Lin_30 rfl (hF 12 x rfl hx) rfl (mz_iload_n d_Lin_argumentIs_11 rfl (mz_isub d_Lin_argumentIs_12 (mz_aload_n d_Lin_argumentIs_13 rfl (mz_callR (As := []) (st := [.int ((mz_i M (12, x) 2) - ((mz_i M (12, x) 6) + (1 : Int32)))]) 0 0 d_Lin_argumentIs_14 cs_JS_length wl_Lin_54 wi_JS_length wse_JS_length (fun A s hr => (mz_u hr (mz_strIn hw1)).1) (Nat.le_of_ble_eq_true rfl) (Nat.zero_le _) (Nat.zero_le _) (MzC.mono (tm_JS_length (d := (d + 2)) (K := fun v9 M9 => v9 = (Int32.ofNat (mzStrB.getD w1 []).length) ∧ M = M9) hw1 hL ⟨rfl, rfl⟩) (fun r9 B9 M9 hq9 => by obtain ⟨rfl, hL1, v9, rfl, rfl, rfl⟩ := hq9; exact ⟨_, rfl, (mz_icmp_eq 22 d_Lin_argumentIs_17 rfl (fun hc4 => (mz_iconst (0 : Int32) d_Lin_argumentIs_22 (by decide) (mz_istore_n d_Lin_argumentIs_23 (by decide) (MzS.loc [(0, .ref (mz_ad B (12, x))), (1, .ref (G.2 (100 + w1))), (2, .int ((mz_i M (12, x) 6) + (1 : Int32))), (3, .int (0 : Int32))] ⟨rfl, rfl, rfl, rfl, trivial⟩ (match (h.1 hc4) with | ⟨r2, h3⟩ => tm_Lin_argumentIs_24 hF hx hw1  r2 ((mz_i M (12, x) 6) + (1 : Int32)) (0 : Int32) M hL1 h3))))) (fun hc4 => (mz_iconst (0 : Int32) d_Lin_argumentIs_20 (by decide) (mz_iret .boolean d_Lin_argumentIs_21 rfl rfl ⟨rfl, hL1, _, rfl, (h.2 hc4)⟩))))⟩))))))))))))))
def mm_Lin_argumentNumber : MzT := (⟨"ParcelLine$LineReader", "argumentNumber", "()I"⟩, prog_7_method_12_code, 4, (Option.some Jvm.ClassFile.FieldType.int))
theorem cs_Lin_argumentNumber {mm : MzT} : mzCall mm mm_Lin_argumentNumber 0 := ⟨wn_Lin, wco_Lin_argumentNumber, by decide +kernel, by decide⟩
theorem d_Lin_argumentNumber_0 : decode mm_Lin_argumentNumber.2.1 0 = .ok (.aload_n 0, 1) := by decide +kernel
theorem d_Lin_argumentNumber_1 : decode mm_Lin_argumentNumber.2.1 1 = .ok (.getfield 51, 3) := by decide +kernel
theorem d_Lin_argumentNumber_4 : decode mm_Lin_argumentNumber.2.1 4 = .ok (.iconst 1, 1) := by decide +kernel
theorem d_Lin_argumentNumber_5 : decode mm_Lin_argumentNumber.2.1 5 = .ok (.iadd, 1) := by decide +kernel
theorem d_Lin_argumentNumber_6 : decode mm_Lin_argumentNumber.2.1 6 = .ok (.istore_n 1, 1) := by decide +kernel
theorem d_Lin_argumentNumber_7 : decode mm_Lin_argumentNumber.2.1 7 = .ok (.aload_n 0, 1) := by decide +kernel
theorem d_Lin_argumentNumber_8 : decode mm_Lin_argumentNumber.2.1 8 = .ok (.getfield 30, 3) := by decide +kernel
theorem d_Lin_argumentNumber_11 : decode mm_Lin_argumentNumber.2.1 11 = .ok (.iload_n 1, 1) := by decide +kernel
theorem d_Lin_argumentNumber_12 : decode mm_Lin_argumentNumber.2.1 12 = .ok (.isub, 1) := by decide +kernel
theorem d_Lin_argumentNumber_13 : decode mm_Lin_argumentNumber.2.1 13 = .ok (.iconst 1, 1) := by decide +kernel
theorem d_Lin_argumentNumber_14 : decode mm_Lin_argumentNumber.2.1 14 = .ok (.if_icmp .lt 13, 3) := by decide +kernel
theorem d_Lin_argumentNumber_17 : decode mm_Lin_argumentNumber.2.1 17 = .ok (.aload_n 0, 1) := by decide +kernel
theorem d_Lin_argumentNumber_18 : decode mm_Lin_argumentNumber.2.1 18 = .ok (.getfield 30, 3) := by decide +kernel
theorem d_Lin_argumentNumber_21 : decode mm_Lin_argumentNumber.2.1 21 = .ok (.iload_n 1, 1) := by decide +kernel
theorem d_Lin_argumentNumber_22 : decode mm_Lin_argumentNumber.2.1 22 = .ok (.isub, 1) := by decide +kernel
theorem d_Lin_argumentNumber_23 : decode mm_Lin_argumentNumber.2.1 23 = .ok (.iconst 2, 1) := by decide +kernel
theorem d_Lin_argumentNumber_24 : decode mm_Lin_argumentNumber.2.1 24 = .ok (.if_icmp .le 5, 3) := by decide +kernel
theorem d_Lin_argumentNumber_27 : decode mm_Lin_argumentNumber.2.1 27 = .ok (.iconst (-1), 1) := by decide +kernel
theorem d_Lin_argumentNumber_28 : decode mm_Lin_argumentNumber.2.1 28 = .ok (.ireturn, 1) := by decide +kernel
theorem d_Lin_argumentNumber_29 : decode mm_Lin_argumentNumber.2.1 29 = .ok (.iconst 0, 1) := by decide +kernel
theorem d_Lin_argumentNumber_30 : decode mm_Lin_argumentNumber.2.1 30 = .ok (.istore_n 2, 1) := by decide +kernel
theorem d_Lin_argumentNumber_31 : decode mm_Lin_argumentNumber.2.1 31 = .ok (.iload_n 1, 1) := by decide +kernel
theorem d_Lin_argumentNumber_32 : decode mm_Lin_argumentNumber.2.1 32 = .ok (.istore_n 3, 1) := by decide +kernel
theorem d_Lin_argumentNumber_33 : decode mm_Lin_argumentNumber.2.1 33 = .ok (.iload_n 3, 1) := by decide +kernel
theorem d_Lin_argumentNumber_34 : decode mm_Lin_argumentNumber.2.1 34 = .ok (.aload_n 0, 1) := by decide +kernel
theorem d_Lin_argumentNumber_35 : decode mm_Lin_argumentNumber.2.1 35 = .ok (.getfield 30, 3) := by decide +kernel
theorem d_Lin_argumentNumber_38 : decode mm_Lin_argumentNumber.2.1 38 = .ok (.if_icmp .ge 48, 3) := by decide +kernel
theorem d_Lin_argumentNumber_41 : decode mm_Lin_argumentNumber.2.1 41 = .ok (.aload_n 0, 1) := by decide +kernel
theorem d_Lin_argumentNumber_42 : decode mm_Lin_argumentNumber.2.1 42 = .ok (.getfield 15, 3) := by decide +kernel
theorem d_Lin_argumentNumber_45 : decode mm_Lin_argumentNumber.2.1 45 = .ok (.iload_n 3, 1) := by decide +kernel
theorem d_Lin_argumentNumber_46 : decode mm_Lin_argumentNumber.2.1 46 = .ok (.iaload, 1) := by decide +kernel
theorem d_Lin_argumentNumber_47 : decode mm_Lin_argumentNumber.2.1 47 = .ok (.bipush 48, 2) := by decide +kernel
theorem d_Lin_argumentNumber_49 : decode mm_Lin_argumentNumber.2.1 49 = .ok (.if_icmp .lt 14, 3) := by decide +kernel
theorem d_Lin_argumentNumber_52 : decode mm_Lin_argumentNumber.2.1 52 = .ok (.aload_n 0, 1) := by decide +kernel
theorem d_Lin_argumentNumber_53 : decode mm_Lin_argumentNumber.2.1 53 = .ok (.getfield 15, 3) := by decide +kernel
theorem d_Lin_argumentNumber_56 : decode mm_Lin_argumentNumber.2.1 56 = .ok (.iload_n 3, 1) := by decide +kernel
theorem d_Lin_argumentNumber_57 : decode mm_Lin_argumentNumber.2.1 57 = .ok (.iaload, 1) := by decide +kernel
theorem d_Lin_argumentNumber_58 : decode mm_Lin_argumentNumber.2.1 58 = .ok (.bipush 57, 2) := by decide +kernel
theorem d_Lin_argumentNumber_60 : decode mm_Lin_argumentNumber.2.1 60 = .ok (.if_icmp .le 5, 3) := by decide +kernel
theorem d_Lin_argumentNumber_63 : decode mm_Lin_argumentNumber.2.1 63 = .ok (.iconst (-1), 1) := by decide +kernel
theorem d_Lin_argumentNumber_64 : decode mm_Lin_argumentNumber.2.1 64 = .ok (.ireturn, 1) := by decide +kernel
theorem d_Lin_argumentNumber_65 : decode mm_Lin_argumentNumber.2.1 65 = .ok (.iload_n 2, 1) := by decide +kernel
theorem d_Lin_argumentNumber_66 : decode mm_Lin_argumentNumber.2.1 66 = .ok (.bipush 10, 2) := by decide +kernel
theorem d_Lin_argumentNumber_68 : decode mm_Lin_argumentNumber.2.1 68 = .ok (.imul, 1) := by decide +kernel
theorem d_Lin_argumentNumber_69 : decode mm_Lin_argumentNumber.2.1 69 = .ok (.aload_n 0, 1) := by decide +kernel
theorem d_Lin_argumentNumber_70 : decode mm_Lin_argumentNumber.2.1 70 = .ok (.getfield 15, 3) := by decide +kernel
theorem d_Lin_argumentNumber_73 : decode mm_Lin_argumentNumber.2.1 73 = .ok (.iload_n 3, 1) := by decide +kernel
theorem d_Lin_argumentNumber_74 : decode mm_Lin_argumentNumber.2.1 74 = .ok (.iaload, 1) := by decide +kernel
theorem d_Lin_argumentNumber_75 : decode mm_Lin_argumentNumber.2.1 75 = .ok (.iadd, 1) := by decide +kernel
theorem d_Lin_argumentNumber_76 : decode mm_Lin_argumentNumber.2.1 76 = .ok (.bipush 48, 2) := by decide +kernel
theorem d_Lin_argumentNumber_78 : decode mm_Lin_argumentNumber.2.1 78 = .ok (.isub, 1) := by decide +kernel
theorem d_Lin_argumentNumber_79 : decode mm_Lin_argumentNumber.2.1 79 = .ok (.istore_n 2, 1) := by decide +kernel
theorem d_Lin_argumentNumber_80 : decode mm_Lin_argumentNumber.2.1 80 = .ok (.iinc 3 1, 3) := by decide +kernel
theorem d_Lin_argumentNumber_83 : decode mm_Lin_argumentNumber.2.1 83 = .ok (.goto (-50), 3) := by decide +kernel
theorem d_Lin_argumentNumber_86 : decode mm_Lin_argumentNumber.2.1 86 = .ok (.iload_n 2, 1) := by decide +kernel
theorem d_Lin_argumentNumber_87 : decode mm_Lin_argumentNumber.2.1 87 = .ok (.ireturn, 1) := by decide +kernel
def wp_Lin_argumentNumber_33 (x : Nat)  (K : Int32 → MzM → Prop) : Nat → Int32 → Int32 → MzM → Prop
  | 0, _, _, _ => False
  | r0 + 1, y2, y3, M => (((mz_i M (12, x) 2) ≤ y3 → K y2 M) ∧ (¬ (mz_i M (12, x) 2) ≤ y3 → (∃ j5 : Nat, y3.toInt = (j5 : Int) ∧ j5 < 30 ∧ (((mz_i M (13, x) j5) < (48 : Int32) → K (-1 : Int32) M) ∧ (¬ (mz_i M (13, x) j5) < (48 : Int32) → (∃ j9 : Nat, y3.toInt = (j9 : Int) ∧ j9 < 30 ∧ (((mz_i M (13, x) j9) ≤ (57 : Int32) → (∃ j13 : Nat, y3.toInt = (j13 : Int) ∧ j13 < 30 ∧ (wp_Lin_argumentNumber_33 x  K r0) (((y2 * (10 : Int32)) + (mz_i M (13, x) j13)) - (48 : Int32)) (y3 + (1 : Int32)) M)) ∧ (¬ (mz_i M (13, x) j9) ≤ (57 : Int32) → K (-1 : Int32) M))))))))
def wp_Lin_argumentNumber (x : Nat)  (M : MzM) (K : Int32 → MzM → Prop) : Prop := ((((mz_i M (12, x) 2) - ((mz_i M (12, x) 6) + (1 : Int32))) < (1 : Int32) → K (-1 : Int32) M) ∧ (¬ ((mz_i M (12, x) 2) - ((mz_i M (12, x) 6) + (1 : Int32))) < (1 : Int32) → ((((mz_i M (12, x) 2) - ((mz_i M (12, x) 6) + (1 : Int32))) ≤ (2 : Int32) → (∃ r1 : Nat, wp_Lin_argumentNumber_33 x  K r1 (0 : Int32) ((mz_i M (12, x) 6) + (1 : Int32)) M)) ∧ (¬ ((mz_i M (12, x) 2) - ((mz_i M (12, x) 6) + (1 : Int32))) ≤ (2 : Int32) → K (-1 : Int32) M))))
theorem tm_Lin_argumentNumber_33 {G : MzG} {B : MzB} {d : Nat} {K : Int32 → MzM → Prop} (hF : mzLive false B) {x : Nat} (hx : x < 2)   : ∀ (r0 : Nat) (y2 : Int32) (y3 : Int32) (M : MzM), mzLnk false M → wp_Lin_argumentNumber_33 x  K r0 y2 y3 M → MzS G B d mm_Lin_argumentNumber M (0, 0) (mzK1 false B K) 33 [(0, .ref (mz_ad B (12, x))), (2, .int y2), (3, .int y3)] [] := by
  intro r0
  induction r0 with
  | zero => intro y2 y3 M hL h; exact False.elim h
  | succ r0 hH33 =>
    intro y2 y3 M hL h
    unfold wp_Lin_argumentNumber_33 at h
    exact (mz_iload_n d_Lin_argumentNumber_33 rfl (mz_aload_n d_Lin_argumentNumber_34 rfl (mz_getI (k := 2) cl_6 d_Lin_argumentNumber_35 (by decide) wf_Lin_30 rfl (hF 12 x rfl hx) rfl (mz_icmp_ge 86 d_Lin_argumentNumber_38 rfl (fun hc19 => (mz_iload_n d_Lin_argumentNumber_86 rfl (mz_iret .int d_Lin_argumentNumber_87 rfl rfl ⟨rfl, hL, _, rfl, (h.1 hc19)⟩))) (fun hc19 => (mz_aload_n d_Lin_argumentNumber_41 rfl (mz_getR (k := 1) (a := (13, x)) cl_6 d_Lin_argumentNumber_42 (by decide) wf_Lin_15 rfl (hF 12 x rfl hx) rfl (hL (12, x) 1 (13, x) rfl rfl hx) (mz_iload_n d_Lin_argumentNumber_45 rfl (match (h.2 hc19) with | ⟨j5, h6, h7, h8⟩ => mz_iald j5 d_Lin_argumentNumber_46 (hF 13 x rfl hx) rfl h6 h7 (mz_bipush (48 : Int32) d_Lin_argumentNumber_47 (by decide) (mz_icmp_lt 63 d_Lin_argumentNumber_49 rfl (fun hc18 => (mz_iconst (-1 : Int32) d_Lin_argumentNumber_63 (by decide) (mz_iret .int d_Lin_argumentNumber_64 rfl rfl ⟨rfl, hL, _, rfl, (h8.1 hc18)⟩))) (fun hc18 => (mz_aload_n d_Lin_argumentNumber_52 rfl (mz_getR (k := 1) (a := (13, x)) cl_6 d_Lin_argumentNumber_53 (by decide) wf_Lin_15 rfl (hF 12 x rfl hx) rfl (hL (12, x) 1 (13, x) rfl rfl hx) (mz_iload_n d_Lin_argumentNumber_56 rfl (match (h8.2 hc18) with | ⟨j9, h10, h11, h12⟩ => mz_iald j9 d_Lin_argumentNumber_57 (hF 13 x rfl hx) rfl h10 h11 (mz_bipush (57 : Int32) d_Lin_argumentNumber_58 (by decide) (mz_icmp_le 65 d_Lin_argumentNumber_60 rfl (fun hc17 => (mz_iload_n d_Lin_argumentNumber_65 rfl (mz_bipush (10 : Int32) d_Lin_argumentNumber_66 (by decide) (mz_imul d_Lin_argumentNumber_68 (mz_aload_n d_Lin_argumentNumber_69 rfl (mz_getR (k := 1) (a := (13, x)) cl_6 d_Lin_argumentNumber_70 (by decide) wf_Lin_15 rfl (hF 12 x rfl hx) rfl (hL (12, x) 1 (13, x) rfl rfl hx) (mz_iload_n d_Lin_argumentNumber_73 rfl (match (h12.1 hc17) with | ⟨j13, h14, h15, h16⟩ => mz_iald j13 d_Lin_argumentNumber_74 (hF 13 x rfl hx) rfl h14 h15 (mz_iadd d_Lin_argumentNumber_75 (mz_bipush (48 : Int32) d_Lin_argumentNumber_76 (by decide) (mz_isub d_Lin_argumentNumber_78 (mz_istore_n d_Lin_argumentNumber_79 (by decide) (mz_iinc (y3 + (1 : Int32)) d_Lin_argumentNumber_80 rfl (by decide) rfl (mz_goto 33 d_Lin_argumentNumber_83 rfl (MzS.loc [(0, .ref (mz_ad B (12, x))), (2, .int (((y2 * (10 : Int32)) + (mz_i M (13, x) j13)) - (48 : Int32))), (3, .int (y3 + (1 : Int32)))] ⟨rfl, rfl, rfl, trivial⟩ (hH33 (((y2 * (10 : Int32)) + (mz_i M (13, x) j13)) - (48 : Int32)) (y3 + (1 : Int32)) M hL h16)))))))))))))))) (fun hc17 => (mz_iconst (-1 : Int32) d_Lin_argumentNumber_63 (by decide) (mz_iret .int d_Lin_argumentNumber_64 rfl rfl ⟨rfl, hL, _, rfl, (h12.2 hc17)⟩)))))))))))))))))))))
theorem tm_Lin_argumentNumber {G : MzG} {B : MzB} {d : Nat} {K : Int32 → MzM → Prop} (hF : mzLive false B) {x : Nat} (hx : x < 2)  {M : MzM} (hL : mzLnk false M) (h : wp_Lin_argumentNumber x  M K) : MzC G B d mm_Lin_argumentNumber [.ref (mz_ad B (12, x))] M (0, 0) (mzK1 false B K) := by
  unfold wp_Lin_argumentNumber at h
  exact MzC.of rfl (Nat.le_of_ble_eq_true rfl) (show MzS G B d mm_Lin_argumentNumber M (0, 0) (mzK1 false B K) 0 [(0, .ref (mz_ad B (12, x)))] [] from (mz_aload_n d_Lin_argumentNumber_0 rfl (mz_getI (k := 6) cl_6 d_Lin_argumentNumber_1 (by decide) wf_Lin_51 rfl (hF 12 x rfl hx) rfl (mz_iconst (1 : Int32) d_Lin_argumentNumber_4 (by decide) (mz_iadd d_Lin_argumentNumber_5 (mz_istore_n d_Lin_argumentNumber_6 (by decide) (mz_aload_n d_Lin_argumentNumber_7 rfl (mz_getI (k := 2) cl_6 d_Lin_argumentNumber_8 (by decide) wf_Lin_30 rfl (hF 12 x rfl hx) rfl (mz_iload_n d_Lin_argumentNumber_11 rfl (mz_isub d_Lin_argumentNumber_12 (mz_iconst (1 : Int32) d_Lin_argumentNumber_13 (by decide) (mz_icmp_lt 27 d_Lin_argumentNumber_14 rfl (fun hc4 => (mz_iconst (-1 : Int32) d_Lin_argumentNumber_27 (by decide) (mz_iret .int d_Lin_argumentNumber_28 rfl rfl ⟨rfl, hL, _, rfl, (h.1 hc4)⟩))) (fun hc4 => (mz_aload_n d_Lin_argumentNumber_17 rfl (mz_getI (k := 2) cl_6 d_Lin_argumentNumber_18 (by decide) wf_Lin_30 rfl (hF 12 x rfl hx) rfl (mz_iload_n d_Lin_argumentNumber_21 rfl (mz_isub d_Lin_argumentNumber_22 (mz_iconst (2 : Int32) d_Lin_argumentNumber_23 (by decide) (mz_icmp_le 29 d_Lin_argumentNumber_24 rfl (fun hc3 => (mz_iconst (0 : Int32) d_Lin_argumentNumber_29 (by decide) (mz_istore_n d_Lin_argumentNumber_30 (by decide) (mz_iload_n d_Lin_argumentNumber_31 rfl (mz_istore_n d_Lin_argumentNumber_32 (by decide) (MzS.loc [(0, .ref (mz_ad B (12, x))), (2, .int (0 : Int32)), (3, .int ((mz_i M (12, x) 6) + (1 : Int32)))] ⟨rfl, rfl, rfl, trivial⟩ (match ((h.2 hc4).1 hc3) with | ⟨r1, h2⟩ => tm_Lin_argumentNumber_33 hF hx  r1 (0 : Int32) ((mz_i M (12, x) 6) + (1 : Int32)) M hL h2))))))) (fun hc3 => (mz_iconst (-1 : Int32) d_Lin_argumentNumber_27 (by decide) (mz_iret .int d_Lin_argumentNumber_28 rfl rfl ⟨rfl, hL, _, rfl, ((h.2 hc4).2 hc3)⟩))))))))))))))))))))))
def mm_Ses_argumentFits : MzT := (⟨"ParcelLine$Session", "argumentFits", "(I)Z"⟩, prog_11_method_12_code, 2, (Option.some Jvm.ClassFile.FieldType.boolean))
theorem cs_Ses_argumentFits {mm : MzT} : mzCall mm mm_Ses_argumentFits 1 := ⟨wn_Ses, wco_Ses_argumentFits, by decide +kernel, by decide⟩
theorem d_Ses_argumentFits_0 : decode mm_Ses_argumentFits.2.1 0 = .ok (.aload_n 0, 1) := by decide +kernel
theorem d_Ses_argumentFits_1 : decode mm_Ses_argumentFits.2.1 1 = .ok (.getfield 31, 3) := by decide +kernel
theorem d_Ses_argumentFits_4 : decode mm_Ses_argumentFits.2.1 4 = .ok (.invokevirtual 225, 3) := by decide +kernel
theorem d_Ses_argumentFits_7 : decode mm_Ses_argumentFits.2.1 7 = .ok (.ifCond .ne 13, 3) := by decide +kernel
theorem d_Ses_argumentFits_10 : decode mm_Ses_argumentFits.2.1 10 = .ok (.iload_n 1, 1) := by decide +kernel
theorem d_Ses_argumentFits_11 : decode mm_Ses_argumentFits.2.1 11 = .ok (.ifCond .ne 7, 3) := by decide +kernel
theorem d_Ses_argumentFits_14 : decode mm_Ses_argumentFits.2.1 14 = .ok (.iconst 1, 1) := by decide +kernel
theorem d_Ses_argumentFits_15 : decode mm_Ses_argumentFits.2.1 15 = .ok (.goto 4, 3) := by decide +kernel
theorem d_Ses_argumentFits_18 : decode mm_Ses_argumentFits.2.1 18 = .ok (.iconst 0, 1) := by decide +kernel
theorem d_Ses_argumentFits_19 : decode mm_Ses_argumentFits.2.1 19 = .ok (.ireturn, 1) := by decide +kernel
theorem d_Ses_argumentFits_20 : decode mm_Ses_argumentFits.2.1 20 = .ok (.iload_n 1, 1) := by decide +kernel
theorem d_Ses_argumentFits_21 : decode mm_Ses_argumentFits.2.1 21 = .ok (.tableswitch 100 1 4 #[31, 33, 63, 92], 31) := by decide +kernel
theorem d_Ses_argumentFits_52 : decode mm_Ses_argumentFits.2.1 52 = .ok (.iconst 1, 1) := by decide +kernel
theorem d_Ses_argumentFits_53 : decode mm_Ses_argumentFits.2.1 53 = .ok (.ireturn, 1) := by decide +kernel
theorem d_Ses_argumentFits_54 : decode mm_Ses_argumentFits.2.1 54 = .ok (.aload_n 0, 1) := by decide +kernel
theorem d_Ses_argumentFits_55 : decode mm_Ses_argumentFits.2.1 55 = .ok (.getfield 31, 3) := by decide +kernel
theorem d_Ses_argumentFits_58 : decode mm_Ses_argumentFits.2.1 58 = .ok (.ldc 228, 2) := by decide +kernel
theorem d_Ses_argumentFits_60 : decode mm_Ses_argumentFits.2.1 60 = .ok (.invokevirtual 230, 3) := by decide +kernel
theorem d_Ses_argumentFits_63 : decode mm_Ses_argumentFits.2.1 63 = .ok (.ifCond .ne 15, 3) := by decide +kernel
theorem d_Ses_argumentFits_66 : decode mm_Ses_argumentFits.2.1 66 = .ok (.aload_n 0, 1) := by decide +kernel
theorem d_Ses_argumentFits_67 : decode mm_Ses_argumentFits.2.1 67 = .ok (.getfield 31, 3) := by decide +kernel
theorem d_Ses_argumentFits_70 : decode mm_Ses_argumentFits.2.1 70 = .ok (.ldc 233, 2) := by decide +kernel
theorem d_Ses_argumentFits_72 : decode mm_Ses_argumentFits.2.1 72 = .ok (.invokevirtual 230, 3) := by decide +kernel
theorem d_Ses_argumentFits_75 : decode mm_Ses_argumentFits.2.1 75 = .ok (.ifCond .eq 7, 3) := by decide +kernel
theorem d_Ses_argumentFits_78 : decode mm_Ses_argumentFits.2.1 78 = .ok (.iconst 1, 1) := by decide +kernel
theorem d_Ses_argumentFits_79 : decode mm_Ses_argumentFits.2.1 79 = .ok (.goto 4, 3) := by decide +kernel
theorem d_Ses_argumentFits_82 : decode mm_Ses_argumentFits.2.1 82 = .ok (.iconst 0, 1) := by decide +kernel
theorem d_Ses_argumentFits_83 : decode mm_Ses_argumentFits.2.1 83 = .ok (.ireturn, 1) := by decide +kernel
theorem d_Ses_argumentFits_84 : decode mm_Ses_argumentFits.2.1 84 = .ok (.aload_n 0, 1) := by decide +kernel
theorem d_Ses_argumentFits_85 : decode mm_Ses_argumentFits.2.1 85 = .ok (.getfield 31, 3) := by decide +kernel
theorem d_Ses_argumentFits_88 : decode mm_Ses_argumentFits.2.1 88 = .ok (.invokevirtual 234, 3) := by decide +kernel
theorem d_Ses_argumentFits_91 : decode mm_Ses_argumentFits.2.1 91 = .ok (.iconst (-1), 1) := by decide +kernel
theorem d_Ses_argumentFits_92 : decode mm_Ses_argumentFits.2.1 92 = .ok (.if_icmp .eq 19, 3) := by decide +kernel
theorem d_Ses_argumentFits_95 : decode mm_Ses_argumentFits.2.1 95 = .ok (.aload_n 0, 1) := by decide +kernel
theorem d_Ses_argumentFits_96 : decode mm_Ses_argumentFits.2.1 96 = .ok (.getfield 31, 3) := by decide +kernel
theorem d_Ses_argumentFits_99 : decode mm_Ses_argumentFits.2.1 99 = .ok (.invokevirtual 234, 3) := by decide +kernel
theorem d_Ses_argumentFits_102 : decode mm_Ses_argumentFits.2.1 102 = .ok (.bipush 24, 2) := by decide +kernel
theorem d_Ses_argumentFits_104 : decode mm_Ses_argumentFits.2.1 104 = .ok (.if_icmp .gt 7, 3) := by decide +kernel
theorem d_Ses_argumentFits_107 : decode mm_Ses_argumentFits.2.1 107 = .ok (.iconst 1, 1) := by decide +kernel
theorem d_Ses_argumentFits_108 : decode mm_Ses_argumentFits.2.1 108 = .ok (.goto 4, 3) := by decide +kernel
theorem d_Ses_argumentFits_111 : decode mm_Ses_argumentFits.2.1 111 = .ok (.iconst 0, 1) := by decide +kernel
theorem d_Ses_argumentFits_112 : decode mm_Ses_argumentFits.2.1 112 = .ok (.ireturn, 1) := by decide +kernel
theorem d_Ses_argumentFits_113 : decode mm_Ses_argumentFits.2.1 113 = .ok (.aload_n 0, 1) := by decide +kernel
theorem d_Ses_argumentFits_114 : decode mm_Ses_argumentFits.2.1 114 = .ok (.getfield 38, 3) := by decide +kernel
theorem d_Ses_argumentFits_117 : decode mm_Ses_argumentFits.2.1 117 = .ok (.getfield 237, 3) := by decide +kernel
theorem d_Ses_argumentFits_120 : decode mm_Ses_argumentFits.2.1 120 = .ok (.ireturn, 1) := by decide +kernel
theorem d_Ses_argumentFits_121 : decode mm_Ses_argumentFits.2.1 121 = .ok (.iconst 0, 1) := by decide +kernel
theorem d_Ses_argumentFits_122 : decode mm_Ses_argumentFits.2.1 122 = .ok (.ireturn, 1) := by decide +kernel
def wp_Ses_argumentFits (x : Nat) (a1 : Int32) (M : MzM) (K : Int32 → MzM → Prop) : Prop := wp_Lin_hasArgument x  M (fun v4 M1 => ((¬ v4 = 0 → ((a1 = (1 : Int32) → K (1 : Int32) M1) ∧ (a1 = (2 : Int32) → wp_Lin_argumentIs x 0  M1 (fun v8 M5 => ((¬ v8 = 0 → K (1 : Int32) M5) ∧ (v8 = 0 → wp_Lin_argumentIs x 1  M5 (fun v12 M9 => ((v12 = 0 → K (0 : Int32) M9) ∧ (¬ v12 = 0 → K (1 : Int32) M9))))))) ∧ (a1 = (3 : Int32) → wp_Lin_argumentNumber x  M1 (fun v18 M15 => ((v18 = (-1 : Int32) → K (0 : Int32) M15) ∧ (¬ v18 = (-1 : Int32) → wp_Lin_argumentNumber x  M15 (fun v22 M19 => (((24 : Int32) < v22 → K (0 : Int32) M19) ∧ (¬ (24 : Int32) < v22 → K (1 : Int32) M19))))))) ∧ (a1 = (4 : Int32) → (((mz_i M1 (14, x) 3) = 0 ∨ (mz_i M1 (14, x) 3) = 1) ∧ K (mz_i M1 (14, x) 3) M1)) ∧ (¬ a1 = (1 : Int32) → ¬ a1 = (2 : Int32) → ¬ a1 = (3 : Int32) → ¬ a1 = (4 : Int32) → K (0 : Int32) M1))) ∧ (v4 = 0 → ((¬ a1 = 0 → K (0 : Int32) M1) ∧ (a1 = 0 → K (1 : Int32) M1)))))
theorem tm_Ses_argumentFits {G : MzG} {B : MzB} {d : Nat} {K : Int32 → MzM → Prop} (hF : mzLive false B) {x : Nat} (hx : x < 2) {a1 : Int32} {M : MzM} (hL : mzLnk false M) (h : wp_Ses_argumentFits x a1 M K) : MzC G B (d + 5) mm_Ses_argumentFits [.ref (mz_ad B (8, x)), .int a1] M (0, 0) (mzK1 false B K) := by
  unfold wp_Ses_argumentFits at h
  exact MzC.of rfl (Nat.le_of_ble_eq_true rfl) (show MzS G B (d + 5) mm_Ses_argumentFits M (0, 0) (mzK1 false B K) 0 [(0, .ref (mz_ad B (8, x))), (1, .int a1)] [] from (mz_aload_n d_Ses_argumentFits_0 rfl (mz_getR (k := 3) (a := (12, x)) cl_4 d_Ses_argumentFits_1 (by decide) wf_Ses_31 rfl (hF 8 x rfl hx) rfl (hL (8, x) 3 (12, x) rfl rfl hx) (mz_callV (As := []) (st := []) (hF 12 x rfl hx) rfl (mzClOf cl_6) 0 0 d_Ses_argumentFits_4 cs_Lin_hasArgument wl_Ses_225 wi_Lin_hasArgument wse_Lin_hasArgument (Nat.le_of_ble_eq_true rfl) (Nat.zero_le _) (Nat.zero_le _) (MzC.mono (tm_Lin_hasArgument (d := (d + 4)) hF hx hL h) (fun r9 B9 M1 hq3 => by obtain ⟨rfl, hL2, v4, rfl, hq3⟩ := hq3; exact ⟨_, rfl, (mz_if_ne 20 d_Ses_argumentFits_7 rfl (fun hc27 => (mz_iload_n d_Ses_argumentFits_20 rfl (Decidable.byCases (fun he25_1 : a1 = (1 : Int32) => mz_tabIn 52 d_Ses_argumentFits_21 (by rw [he25_1]; decide) (by rw [he25_1]; decide) (by rw [he25_1]; rfl) rfl (mz_iconst (1 : Int32) d_Ses_argumentFits_52 (by decide) (mz_iret .boolean d_Ses_argumentFits_53 rfl rfl ⟨rfl, hL2, _, rfl, ((hq3.1 hc27).1 he25_1)⟩))) (fun he25n_1 => (Decidable.byCases (fun he25_2 : a1 = (2 : Int32) => mz_tabIn 54 d_Ses_argumentFits_21 (by rw [he25_2]; decide) (by rw [he25_2]; decide) (by rw [he25_2]; rfl) rfl (mz_aload_n d_Ses_argumentFits_54 rfl (mz_getR (k := 3) (a := (12, x)) cl_4 d_Ses_argumentFits_55 (by decide) wf_Ses_31 rfl (hF 8 x rfl hx) rfl (hL2 (8, x) 3 (12, x) rfl rfl hx) (mz_ldcS d_Ses_argumentFits_58 (fun A s hr => (mz_u hr (mz_strIn (k := 0) (by decide))).2.2.2.2) (mz_callV (As := [.ref (G.2 (100 + 0))]) (st := []) (hF 12 x rfl hx) rfl (mzClOf cl_6) 0 0 d_Ses_argumentFits_60 cs_Lin_argumentIs wl_Ses_230 wi_Lin_argumentIs wse_Lin_argumentIs (Nat.le_of_ble_eq_true rfl) (Nat.zero_le _) (Nat.zero_le _) (MzC.mono (tm_Lin_argumentIs (d := d) hF hx (by decide) hL2 ((hq3.1 hc27).2.1 he25_2)) (fun r9 B9 M5 hq7 => by obtain ⟨rfl, hL6, v8, rfl, hq7⟩ := hq7; exact ⟨_, rfl, (mz_if_ne 78 d_Ses_argumentFits_63 rfl (fun hc14 => (mz_iconst (1 : Int32) d_Ses_argumentFits_78 (by decide) (mz_goto 83 d_Ses_argumentFits_79 rfl (mz_iret .boolean d_Ses_argumentFits_83 rfl rfl ⟨rfl, hL6, _, rfl, (hq7.1 hc14)⟩)))) (fun hc14 => (mz_aload_n d_Ses_argumentFits_66 rfl (mz_getR (k := 3) (a := (12, x)) cl_4 d_Ses_argumentFits_67 (by decide) wf_Ses_31 rfl (hF 8 x rfl hx) rfl (hL6 (8, x) 3 (12, x) rfl rfl hx) (mz_ldcS d_Ses_argumentFits_70 (fun A s hr => (mz_u hr (mz_strIn (k := 1) (by decide))).2.2.2.2) (mz_callV (As := [.ref (G.2 (100 + 1))]) (st := []) (hF 12 x rfl hx) rfl (mzClOf cl_6) 0 0 d_Ses_argumentFits_72 cs_Lin_argumentIs wl_Ses_230 wi_Lin_argumentIs wse_Lin_argumentIs (Nat.le_of_ble_eq_true rfl) (Nat.zero_le _) (Nat.zero_le _) (MzC.mono (tm_Lin_argumentIs (d := d) hF hx (by decide) hL6 (hq7.2 hc14)) (fun r9 B9 M9 hq11 => by obtain ⟨rfl, hL10, v12, rfl, hq11⟩ := hq11; exact ⟨_, rfl, (mz_if_eq 82 d_Ses_argumentFits_75 rfl (fun hc13 => (mz_iconst (0 : Int32) d_Ses_argumentFits_82 (by decide) (mz_iret .boolean d_Ses_argumentFits_83 rfl rfl ⟨rfl, hL10, _, rfl, (hq11.1 hc13)⟩))) (fun hc13 => (mz_iconst (1 : Int32) d_Ses_argumentFits_78 (by decide) (mz_goto 83 d_Ses_argumentFits_79 rfl (mz_iret .boolean d_Ses_argumentFits_83 rfl rfl ⟨rfl, hL10, _, rfl, (hq11.2 hc13)⟩)))))⟩))))))))⟩))))))) (fun he25n_2 => (Decidable.byCases (fun he25_3 : a1 = (3 : Int32) => mz_tabIn 84 d_Ses_argumentFits_21 (by rw [he25_3]; decide) (by rw [he25_3]; decide) (by rw [he25_3]; rfl) rfl (mz_aload_n d_Ses_argumentFits_84 rfl (mz_getR (k := 3) (a := (12, x)) cl_4 d_Ses_argumentFits_85 (by decide) wf_Ses_31 rfl (hF 8 x rfl hx) rfl (hL2 (8, x) 3 (12, x) rfl rfl hx) (mz_callV (As := []) (st := []) (hF 12 x rfl hx) rfl (mzClOf cl_6) 0 0 d_Ses_argumentFits_88 cs_Lin_argumentNumber wl_Ses_234 wi_Lin_argumentNumber wse_Lin_argumentNumber (Nat.le_of_ble_eq_true rfl) (Nat.zero_le _) (Nat.zero_le _) (MzC.mono (tm_Lin_argumentNumber (d := (d + 4)) hF hx hL2 ((hq3.1 hc27).2.2.1 he25_3)) (fun r9 B9 M15 hq17 => by obtain ⟨rfl, hL16, v18, rfl, hq17⟩ := hq17; exact ⟨_, rfl, (mz_iconst (-1 : Int32) d_Ses_argumentFits_91 (by decide) (mz_icmp_eq 111 d_Ses_argumentFits_92 rfl (fun hc24 => (mz_iconst (0 : Int32) d_Ses_argumentFits_111 (by decide) (mz_iret .boolean d_Ses_argumentFits_112 rfl rfl ⟨rfl, hL16, _, rfl, (hq17.1 hc24)⟩))) (fun hc24 => (mz_aload_n d_Ses_argumentFits_95 rfl (mz_getR (k := 3) (a := (12, x)) cl_4 d_Ses_argumentFits_96 (by decide) wf_Ses_31 rfl (hF 8 x rfl hx) rfl (hL16 (8, x) 3 (12, x) rfl rfl hx) (mz_callV (As := []) (st := []) (hF 12 x rfl hx) rfl (mzClOf cl_6) 0 0 d_Ses_argumentFits_99 cs_Lin_argumentNumber wl_Ses_234 wi_Lin_argumentNumber wse_Lin_argumentNumber (Nat.le_of_ble_eq_true rfl) (Nat.zero_le _) (Nat.zero_le _) (MzC.mono (tm_Lin_argumentNumber (d := (d + 4)) hF hx hL16 (hq17.2 hc24)) (fun r9 B9 M19 hq21 => by obtain ⟨rfl, hL20, v22, rfl, hq21⟩ := hq21; exact ⟨_, rfl, (mz_bipush (24 : Int32) d_Ses_argumentFits_102 (by decide) (mz_icmp_gt 111 d_Ses_argumentFits_104 rfl (fun hc23 => (mz_iconst (0 : Int32) d_Ses_argumentFits_111 (by decide) (mz_iret .boolean d_Ses_argumentFits_112 rfl rfl ⟨rfl, hL20, _, rfl, (hq21.1 hc23)⟩))) (fun hc23 => (mz_iconst (1 : Int32) d_Ses_argumentFits_107 (by decide) (mz_goto 112 d_Ses_argumentFits_108 rfl (mz_iret .boolean d_Ses_argumentFits_112 rfl rfl ⟨rfl, hL20, _, rfl, (hq21.2 hc23)⟩))))))⟩))))))))⟩)))))) (fun he25n_3 => (Decidable.byCases (fun he25_4 : a1 = (4 : Int32) => mz_tabIn 113 d_Ses_argumentFits_21 (by rw [he25_4]; decide) (by rw [he25_4]; decide) (by rw [he25_4]; rfl) rfl (mz_aload_n d_Ses_argumentFits_113 rfl (mz_getR (k := 4) (a := (14, x)) cl_4 d_Ses_argumentFits_114 (by decide) wf_Ses_38 rfl (hF 8 x rfl hx) rfl (hL2 (8, x) 4 (14, x) rfl rfl hx) (mz_getIN (k := 3) cl_7 d_Ses_argumentFits_117 (by decide) wf_Ses_237 rfl (hF 14 x rfl hx) rfl (mz_iret .boolean d_Ses_argumentFits_120 rfl (mz_bo ((hq3.1 hc27).2.2.2.1 he25_4).1).1 ⟨rfl, hL2, _, rfl, ((hq3.1 hc27).2.2.2.1 he25_4).2⟩))))) (fun he25n_4 => mz_tabOut 121 d_Ses_argumentFits_21 (show a1.toInt < 1 ∨ 4 < a1.toInt by have := lv_neT he25n_1 (show (1 : Int32).toInt = 1 by decide); have := lv_neT he25n_2 (show (2 : Int32).toInt = 2 by decide); have := lv_neT he25n_3 (show (3 : Int32).toInt = 3 by decide); have := lv_neT he25n_4 (show (4 : Int32).toInt = 4 by decide); omega) rfl (mz_iconst (0 : Int32) d_Ses_argumentFits_121 (by decide) (mz_iret .boolean d_Ses_argumentFits_122 rfl rfl ⟨rfl, hL2, _, rfl, ((hq3.1 hc27).2.2.2.2 he25n_1 he25n_2 he25n_3 he25n_4)⟩)))))))))))) (fun hc27 => (mz_iload_n d_Ses_argumentFits_10 rfl (mz_if_ne 18 d_Ses_argumentFits_11 rfl (fun hc26 => (mz_iconst (0 : Int32) d_Ses_argumentFits_18 (by decide) (mz_iret .boolean d_Ses_argumentFits_19 rfl rfl ⟨rfl, hL2, _, rfl, ((hq3.2 hc27).1 hc26)⟩))) (fun hc26 => (mz_iconst (1 : Int32) d_Ses_argumentFits_14 (by decide) (mz_goto 19 d_Ses_argumentFits_15 rfl (mz_iret .boolean d_Ses_argumentFits_19 rfl rfl ⟨rfl, hL2, _, rfl, ((hq3.2 hc27).2 hc26)⟩))))))))⟩))))))
def mm_Ses_refusal : MzT := (⟨"ParcelLine$Session", "refusal", "(LParcelLine$Command;)I"⟩, prog_11_method_11_code, 2, (Option.some Jvm.ClassFile.FieldType.int))
theorem cs_Ses_refusal {mm : MzT} : mzCall mm mm_Ses_refusal 1 := ⟨wn_Ses, wco_Ses_refusal, by decide +kernel, by decide⟩
theorem d_Ses_refusal_0 : decode mm_Ses_refusal.2.1 0 = .ok (.aload_n 0, 1) := by decide +kernel
theorem d_Ses_refusal_1 : decode mm_Ses_refusal.2.1 1 = .ok (.getfield 31, 3) := by decide +kernel
theorem d_Ses_refusal_4 : decode mm_Ses_refusal.2.1 4 = .ok (.getfield 213, 3) := by decide +kernel
theorem d_Ses_refusal_7 : decode mm_Ses_refusal.2.1 7 = .ok (.ifCond .ne 7, 3) := by decide +kernel
theorem d_Ses_refusal_10 : decode mm_Ses_refusal.2.1 10 = .ok (.aload_n 1, 1) := by decide +kernel
theorem d_Ses_refusal_11 : decode mm_Ses_refusal.2.1 11 = .ok (.ifnonnull 7, 3) := by decide +kernel
theorem d_Ses_refusal_14 : decode mm_Ses_refusal.2.1 14 = .ok (.sipush 500, 3) := by decide +kernel
theorem d_Ses_refusal_17 : decode mm_Ses_refusal.2.1 17 = .ok (.ireturn, 1) := by decide +kernel
theorem d_Ses_refusal_18 : decode mm_Ses_refusal.2.1 18 = .ok (.aload_n 0, 1) := by decide +kernel
theorem d_Ses_refusal_19 : decode mm_Ses_refusal.2.1 19 = .ok (.aload_n 1, 1) := by decide +kernel
theorem d_Ses_refusal_20 : decode mm_Ses_refusal.2.1 20 = .ok (.getfield 93, 3) := by decide +kernel
theorem d_Ses_refusal_23 : decode mm_Ses_refusal.2.1 23 = .ok (.invokevirtual 216, 3) := by decide +kernel
theorem d_Ses_refusal_26 : decode mm_Ses_refusal.2.1 26 = .ok (.ifCond .ne 7, 3) := by decide +kernel
theorem d_Ses_refusal_29 : decode mm_Ses_refusal.2.1 29 = .ok (.sipush 501, 3) := by decide +kernel
theorem d_Ses_refusal_32 : decode mm_Ses_refusal.2.1 32 = .ok (.ireturn, 1) := by decide +kernel
theorem d_Ses_refusal_33 : decode mm_Ses_refusal.2.1 33 = .ok (.aload_n 1, 1) := by decide +kernel
theorem d_Ses_refusal_34 : decode mm_Ses_refusal.2.1 34 = .ok (.getfield 219, 3) := by decide +kernel
theorem d_Ses_refusal_37 : decode mm_Ses_refusal.2.1 37 = .ok (.ifCond .eq 14, 3) := by decide +kernel
theorem d_Ses_refusal_40 : decode mm_Ses_refusal.2.1 40 = .ok (.aload_n 0, 1) := by decide +kernel
theorem d_Ses_refusal_41 : decode mm_Ses_refusal.2.1 41 = .ok (.getfield 140, 3) := by decide +kernel
theorem d_Ses_refusal_44 : decode mm_Ses_refusal.2.1 44 = .ok (.ifCond .ne 7, 3) := by decide +kernel
theorem d_Ses_refusal_47 : decode mm_Ses_refusal.2.1 47 = .ok (.sipush 530, 3) := by decide +kernel
theorem d_Ses_refusal_50 : decode mm_Ses_refusal.2.1 50 = .ok (.ireturn, 1) := by decide +kernel
theorem d_Ses_refusal_51 : decode mm_Ses_refusal.2.1 51 = .ok (.aload_n 1, 1) := by decide +kernel
theorem d_Ses_refusal_52 : decode mm_Ses_refusal.2.1 52 = .ok (.getfield 222, 3) := by decide +kernel
theorem d_Ses_refusal_55 : decode mm_Ses_refusal.2.1 55 = .ok (.ifCond .ne 17, 3) := by decide +kernel
theorem d_Ses_refusal_58 : decode mm_Ses_refusal.2.1 58 = .ok (.aload_n 0, 1) := by decide +kernel
theorem d_Ses_refusal_59 : decode mm_Ses_refusal.2.1 59 = .ok (.getfield 45, 3) := by decide +kernel
theorem d_Ses_refusal_62 : decode mm_Ses_refusal.2.1 62 = .ok (.getfield 152, 3) := by decide +kernel
theorem d_Ses_refusal_65 : decode mm_Ses_refusal.2.1 65 = .ok (.ifCond .eq 7, 3) := by decide +kernel
theorem d_Ses_refusal_68 : decode mm_Ses_refusal.2.1 68 = .ok (.sipush 503, 3) := by decide +kernel
theorem d_Ses_refusal_71 : decode mm_Ses_refusal.2.1 71 = .ok (.ireturn, 1) := by decide +kernel
theorem d_Ses_refusal_72 : decode mm_Ses_refusal.2.1 72 = .ok (.aload_n 1, 1) := by decide +kernel
theorem d_Ses_refusal_73 : decode mm_Ses_refusal.2.1 73 = .ok (.getfield 219, 3) := by decide +kernel
theorem d_Ses_refusal_76 : decode mm_Ses_refusal.2.1 76 = .ok (.iconst 2, 1) := by decide +kernel
theorem d_Ses_refusal_77 : decode mm_Ses_refusal.2.1 77 = .ok (.if_icmp .ne 15, 3) := by decide +kernel
theorem d_Ses_refusal_80 : decode mm_Ses_refusal.2.1 80 = .ok (.aload_n 0, 1) := by decide +kernel
theorem d_Ses_refusal_81 : decode mm_Ses_refusal.2.1 81 = .ok (.getfield 140, 3) := by decide +kernel
theorem d_Ses_refusal_84 : decode mm_Ses_refusal.2.1 84 = .ok (.iconst 1, 1) := by decide +kernel
theorem d_Ses_refusal_85 : decode mm_Ses_refusal.2.1 85 = .ok (.if_icmp .eq 7, 3) := by decide +kernel
theorem d_Ses_refusal_88 : decode mm_Ses_refusal.2.1 88 = .ok (.sipush 550, 3) := by decide +kernel
theorem d_Ses_refusal_91 : decode mm_Ses_refusal.2.1 91 = .ok (.ireturn, 1) := by decide +kernel
theorem d_Ses_refusal_92 : decode mm_Ses_refusal.2.1 92 = .ok (.iconst 0, 1) := by decide +kernel
theorem d_Ses_refusal_93 : decode mm_Ses_refusal.2.1 93 = .ok (.ireturn, 1) := by decide +kernel
def wp_Ses_refusal_72 (x : Nat) (c1 : Nat)  (K : Int32 → MzM → Prop)  (M : MzM) : Prop := ((¬ (mzCmdWho.getD c1 0) = (2 : Int32) → K (0 : Int32) M) ∧ ((mzCmdWho.getD c1 0) = (2 : Int32) → (((mz_i M (8, x) 7) = (1 : Int32) → K (0 : Int32) M) ∧ (¬ (mz_i M (8, x) 7) = (1 : Int32) → K (550 : Int32) M))))
def wp_Ses_refusal_51 (x : Nat) (c1 : Nat)  (K : Int32 → MzM → Prop)  (M : MzM) : Prop := ((¬ (mzCmdD.getD c1 0) = 0 → wp_Ses_refusal_72 x c1  K  M) ∧ ((mzCmdD.getD c1 0) = 0 → (((mz_i M (16, x) 1) = 0 → wp_Ses_refusal_72 x c1  K  M) ∧ (¬ (mz_i M (16, x) 1) = 0 → K (503 : Int32) M))))
def wp_Ses_refusal (x : Nat) (c1 : Nat)  (M : MzM) (K : Int32 → MzM → Prop) : Prop := ((¬ (mz_i M (12, x) 3) = 0 → K (500 : Int32) M) ∧ ((mz_i M (12, x) 3) = 0 → wp_Ses_argumentFits x (mzCmdA.getD c1 0) M (fun v4 M1 => ((¬ v4 = 0 → (((mzCmdWho.getD c1 0) = 0 → wp_Ses_refusal_51 x c1  K  M1) ∧ (¬ (mzCmdWho.getD c1 0) = 0 → ((¬ (mz_i M1 (8, x) 7) = 0 → wp_Ses_refusal_51 x c1  K  M1) ∧ ((mz_i M1 (8, x) 7) = 0 → K (530 : Int32) M1))))) ∧ (v4 = 0 → K (501 : Int32) M1)))))
theorem tm_Ses_refusal_72 {G : MzG} {B : MzB} {d : Nat} {K : Int32 → MzM → Prop} (hF : mzLive false B) {x : Nat} {c1 : Nat} (hx : x < 2) (hc1 : c1 < 21)    (M : MzM) (hL : mzLnk false M) (h : wp_Ses_refusal_72 x c1  K  M) : MzS G B (d + 6) mm_Ses_refusal M (0, 0) (mzK1 false B K) 72 [(0, .ref (mz_ad B (8, x))), (1, .ref (G.2 c1))] [] := by
  unfold wp_Ses_refusal_72 at h
  exact (mz_aload_n d_Ses_refusal_72 rfl (mz_getFN d_Ses_refusal_73 wf_Ses_219 (fun A s hr => (mz_u hr (mz_cmdIn hc1)).2.2.2.2.1) (mz_iconst (2 : Int32) d_Ses_refusal_76 (by decide) (mz_icmp_ne 92 d_Ses_refusal_77 rfl (fun hc12 => (mz_iconst (0 : Int32) d_Ses_refusal_92 (by decide) (mz_iret .int d_Ses_refusal_93 rfl rfl ⟨rfl, hL, _, rfl, (h.1 hc12)⟩))) (fun hc12 => (mz_aload_n d_Ses_refusal_80 rfl (mz_getI (k := 7) cl_4 d_Ses_refusal_81 (by decide) wf_Ses_140 rfl (hF 8 x rfl hx) rfl (mz_iconst (1 : Int32) d_Ses_refusal_84 (by decide) (mz_icmp_eq 92 d_Ses_refusal_85 rfl (fun hc11 => (mz_iconst (0 : Int32) d_Ses_refusal_92 (by decide) (mz_iret .int d_Ses_refusal_93 rfl rfl ⟨rfl, hL, _, rfl, ((h.2 hc12).1 hc11)⟩))) (fun hc11 => (mz_sipush (550 : Int32) d_Ses_refusal_88 (by decide) (mz_iret .int d_Ses_refusal_91 rfl rfl ⟨rfl, hL, _, rfl, ((h.2 hc12).2 hc11)⟩))))))))))))
theorem tm_Ses_refusal_51 {G : MzG} {B : MzB} {d : Nat} {K : Int32 → MzM → Prop} (hF : mzLive false B) {x : Nat} {c1 : Nat} (hx : x < 2) (hc1 : c1 < 21)    (M : MzM) (hL : mzLnk false M) (h : wp_Ses_refusal_51 x c1  K  M) : MzS G B (d + 6) mm_Ses_refusal M (0, 0) (mzK1 false B K) 51 [(0, .ref (mz_ad B (8, x))), (1, .ref (G.2 c1))] [] := by
  unfold wp_Ses_refusal_51 at h
  exact (mz_aload_n d_Ses_refusal_51 rfl (mz_getFN d_Ses_refusal_52 wf_Ses_222 (fun A s hr => (mz_u hr (mz_cmdIn hc1)).2.2.2.2.2.1) (mz_if_ne 72 d_Ses_refusal_55 rfl (fun hc10 => (MzS.loc [(0, .ref (mz_ad B (8, x))), (1, .ref (G.2 c1))] ⟨rfl, rfl, trivial⟩ (tm_Ses_refusal_72 hF hx hc1   M hL (h.1 hc10)))) (fun hc10 => (mz_aload_n d_Ses_refusal_58 rfl (mz_getR (k := 5) (a := (16, x)) cl_4 d_Ses_refusal_59 (by decide) wf_Ses_45 rfl (hF 8 x rfl hx) rfl (hL (8, x) 5 (16, x) rfl rfl hx) (mz_getIN (k := 1) cl_8 d_Ses_refusal_62 (by decide) wf_Ses_152 rfl (hF 16 x rfl hx) rfl (mz_if_eq 72 d_Ses_refusal_65 rfl (fun hc9 => (MzS.loc [(0, .ref (mz_ad B (8, x))), (1, .ref (G.2 c1))] ⟨rfl, rfl, trivial⟩ (tm_Ses_refusal_72 hF hx hc1   M hL ((h.2 hc10).1 hc9)))) (fun hc9 => (mz_sipush (503 : Int32) d_Ses_refusal_68 (by decide) (mz_iret .int d_Ses_refusal_71 rfl rfl ⟨rfl, hL, _, rfl, ((h.2 hc10).2 hc9)⟩)))))))))))
theorem tm_Ses_refusal {G : MzG} {B : MzB} {d : Nat} {K : Int32 → MzM → Prop} (hF : mzLive false B) {x : Nat} {c1 : Nat} (hx : x < 2) (hc1 : c1 < 21)  {M : MzM} (hL : mzLnk false M) (h : wp_Ses_refusal x c1  M K) : MzC G B (d + 6) mm_Ses_refusal [.ref (mz_ad B (8, x)), .ref (G.2 c1)] M (0, 0) (mzK1 false B K) := by
  unfold wp_Ses_refusal at h
  exact MzC.of rfl (Nat.le_of_ble_eq_true rfl) (show MzS G B (d + 6) mm_Ses_refusal M (0, 0) (mzK1 false B K) 0 [(0, .ref (mz_ad B (8, x))), (1, .ref (G.2 c1))] [] from (mz_aload_n d_Ses_refusal_0 rfl (mz_getR (k := 3) (a := (12, x)) cl_4 d_Ses_refusal_1 (by decide) wf_Ses_31 rfl (hF 8 x rfl hx) rfl (hL (8, x) 3 (12, x) rfl rfl hx) (mz_getIN (k := 3) cl_6 d_Ses_refusal_4 (by decide) wf_Ses_213 rfl (hF 12 x rfl hx) rfl (mz_if_ne 14 d_Ses_refusal_7 rfl (fun hc8 => (mz_sipush (500 : Int32) d_Ses_refusal_14 (by decide) (mz_iret .int d_Ses_refusal_17 rfl rfl ⟨rfl, hL, _, rfl, (h.1 hc8)⟩))) (fun hc8 => (mz_aload_n d_Ses_refusal_10 rfl (mz_ifnonnull 18 d_Ses_refusal_11 rfl (mz_aload_n d_Ses_refusal_18 rfl (mz_aload_n d_Ses_refusal_19 rfl (mz_getFN d_Ses_refusal_20 wf_Ses_93 (fun A s hr => (mz_u hr (mz_cmdIn hc1)).2.2.2.1) (mz_callV (As := [.int (mzCmdA.getD c1 0)]) (st := []) (hF 8 x rfl hx) rfl (mzClOf cl_4) 0 0 d_Ses_refusal_23 cs_Ses_argumentFits wl_Ses_216 wi_Ses_argumentFits wse_Ses_argumentFits (Nat.le_of_ble_eq_true rfl) (Nat.zero_le _) (Nat.zero_le _) (MzC.mono (tm_Ses_argumentFits (d := d) hF hx hL (h.2 hc8)) (fun r9 B9 M1 hq3 => by obtain ⟨rfl, hL2, v4, rfl, hq3⟩ := hq3; exact ⟨_, rfl, (mz_if_ne 33 d_Ses_refusal_26 rfl (fun hc7 => (mz_aload_n d_Ses_refusal_33 rfl (mz_getFN d_Ses_refusal_34 wf_Ses_219 (fun A s hr => (mz_u hr (mz_cmdIn hc1)).2.2.2.2.1) (mz_if_eq 51 d_Ses_refusal_37 rfl (fun hc6 => (MzS.loc [(0, .ref (mz_ad B (8, x))), (1, .ref (G.2 c1))] ⟨rfl, rfl, trivial⟩ (tm_Ses_refusal_51 hF hx hc1   M1 hL2 ((hq3.1 hc7).1 hc6)))) (fun hc6 => (mz_aload_n d_Ses_refusal_40 rfl (mz_getI (k := 7) cl_4 d_Ses_refusal_41 (by decide) wf_Ses_140 rfl (hF 8 x rfl hx) rfl (mz_if_ne 51 d_Ses_refusal_44 rfl (fun hc5 => (MzS.loc [(0, .ref (mz_ad B (8, x))), (1, .ref (G.2 c1))] ⟨rfl, rfl, trivial⟩ (tm_Ses_refusal_51 hF hx hc1   M1 hL2 (((hq3.1 hc7).2 hc6).1 hc5)))) (fun hc5 => (mz_sipush (530 : Int32) d_Ses_refusal_47 (by decide) (mz_iret .int d_Ses_refusal_50 rfl rfl ⟨rfl, hL2, _, rfl, (((hq3.1 hc7).2 hc6).2 hc5)⟩))))))))))) (fun hc7 => (mz_sipush (501 : Int32) d_Ses_refusal_29 (by decide) (mz_iret .int d_Ses_refusal_32 rfl rfl ⟨rfl, hL2, _, rfl, (hq3.2 hc7)⟩))))⟩))))))))))))))
def wp_Ses_refusalN (x : Nat)  (M : MzM) (K : Int32 → MzM → Prop) : Prop := ((¬ (mz_i M (12, x) 3) = 0 → K (500 : Int32) M) ∧ ((mz_i M (12, x) 3) = 0 → K (500 : Int32) M))
theorem tm_Ses_refusalN {G : MzG} {B : MzB} {d : Nat} {K : Int32 → MzM → Prop} (hF : mzLive false B) {x : Nat} (hx : x < 2)  {M : MzM} (hL : mzLnk false M) (h : wp_Ses_refusalN x  M K) : MzC G B (d + 6) mm_Ses_refusal [.ref (mz_ad B (8, x)), .null] M (0, 0) (mzK1 false B K) := by
  unfold wp_Ses_refusalN at h
  exact MzC.of rfl (Nat.le_of_ble_eq_true rfl) (show MzS G B (d + 6) mm_Ses_refusal M (0, 0) (mzK1 false B K) 0 [(0, .ref (mz_ad B (8, x))), (1, .null)] [] from (mz_aload_n d_Ses_refusal_0 rfl (mz_getR (k := 3) (a := (12, x)) cl_4 d_Ses_refusal_1 (by decide) wf_Ses_31 rfl (hF 8 x rfl hx) rfl (hL (8, x) 3 (12, x) rfl rfl hx) (mz_getIN (k := 3) cl_6 d_Ses_refusal_4 (by decide) wf_Ses_213 rfl (hF 12 x rfl hx) rfl (mz_if_ne 14 d_Ses_refusal_7 rfl (fun hc1 => (mz_sipush (500 : Int32) d_Ses_refusal_14 (by decide) (mz_iret .int d_Ses_refusal_17 rfl rfl ⟨rfl, hL, _, rfl, (h.1 hc1)⟩))) (fun hc1 => (mz_aload_nN d_Ses_refusal_10 rfl (mz_ifnonnullN d_Ses_refusal_11 (mz_sipush (500 : Int32) d_Ses_refusal_14 (by decide) (mz_iret .int d_Ses_refusal_17 rfl rfl ⟨rfl, hL, _, rfl, (h.2 hc1)⟩))))))))))
def mm_Store_isDirectory : MzT := (⟨"ParcelLine$Store", "isDirectory", "(I)Z"⟩, prog_12_method_4_code, 2, (Option.some Jvm.ClassFile.FieldType.boolean))
theorem cs_Store_isDirectory {mm : MzT} : mzCall mm mm_Store_isDirectory 1 := ⟨wn_Store, wco_Store_isDirectory, by decide +kernel, by decide⟩
theorem d_Store_isDirectory_0 : decode mm_Store_isDirectory.2.1 0 = .ok (.iload_n 1, 1) := by decide +kernel
theorem d_Store_isDirectory_1 : decode mm_Store_isDirectory.2.1 1 = .ok (.ifCond .lt 26, 3) := by decide +kernel
theorem d_Store_isDirectory_4 : decode mm_Store_isDirectory.2.1 4 = .ok (.iload_n 1, 1) := by decide +kernel
theorem d_Store_isDirectory_5 : decode mm_Store_isDirectory.2.1 5 = .ok (.bipush 16, 2) := by decide +kernel
theorem d_Store_isDirectory_7 : decode mm_Store_isDirectory.2.1 7 = .ok (.if_icmp .ge 20, 3) := by decide +kernel
theorem d_Store_isDirectory_10 : decode mm_Store_isDirectory.2.1 10 = .ok (.aload_n 0, 1) := by decide +kernel
theorem d_Store_isDirectory_11 : decode mm_Store_isDirectory.2.1 11 = .ok (.getfield 11, 3) := by decide +kernel
theorem d_Store_isDirectory_14 : decode mm_Store_isDirectory.2.1 14 = .ok (.iload_n 1, 1) := by decide +kernel
theorem d_Store_isDirectory_15 : decode mm_Store_isDirectory.2.1 15 = .ok (.aaload, 1) := by decide +kernel
theorem d_Store_isDirectory_16 : decode mm_Store_isDirectory.2.1 16 = .ok (.getfield 18, 3) := by decide +kernel
theorem d_Store_isDirectory_19 : decode mm_Store_isDirectory.2.1 19 = .ok (.iconst 1, 1) := by decide +kernel
theorem d_Store_isDirectory_20 : decode mm_Store_isDirectory.2.1 20 = .ok (.if_icmp .ne 7, 3) := by decide +kernel
theorem d_Store_isDirectory_23 : decode mm_Store_isDirectory.2.1 23 = .ok (.iconst 1, 1) := by decide +kernel
theorem d_Store_isDirectory_24 : decode mm_Store_isDirectory.2.1 24 = .ok (.goto 4, 3) := by decide +kernel
theorem d_Store_isDirectory_27 : decode mm_Store_isDirectory.2.1 27 = .ok (.iconst 0, 1) := by decide +kernel
theorem d_Store_isDirectory_28 : decode mm_Store_isDirectory.2.1 28 = .ok (.ireturn, 1) := by decide +kernel
def wp_Store_isDirectory  (a1 : Int32) (M : MzM) (K : Int32 → MzM → Prop) : Prop := ((a1 < 0 → K (0 : Int32) M) ∧ (¬ a1 < 0 → (((16 : Int32) ≤ a1 → K (0 : Int32) M) ∧ (¬ (16 : Int32) ≤ a1 → (∃ j1 : Nat, a1.toInt = (j1 : Int) ∧ j1 < 16 ∧ ((¬ (mz_i M (3, j1) 1) = (1 : Int32) → K (0 : Int32) M) ∧ ((mz_i M (3, j1) 1) = (1 : Int32) → K (1 : Int32) M)))))))
theorem tm_Store_isDirectory {G : MzG} {B : MzB} {d : Nat} {K : Int32 → MzM → Prop} (hF : mzLive false B)   {a1 : Int32} {M : MzM} (hL : mzLnk false M) (h : wp_Store_isDirectory  a1 M K) : MzC G B d mm_Store_isDirectory [.ref (mz_ad B (1, 0)), .int a1] M (0, 0) (mzK1 false B K) := by
  unfold wp_Store_isDirectory at h
  exact MzC.of rfl (Nat.le_of_ble_eq_true rfl) (show MzS G B d mm_Store_isDirectory M (0, 0) (mzK1 false B K) 0 [(0, .ref (mz_ad B (1, 0))), (1, .int a1)] [] from (mz_iload_n d_Store_isDirectory_0 rfl (mz_if_lt 27 d_Store_isDirectory_1 rfl (fun hc7 => (mz_iconst (0 : Int32) d_Store_isDirectory_27 (by decide) (mz_iret .boolean d_Store_isDirectory_28 rfl rfl ⟨rfl, hL, _, rfl, (h.1 hc7)⟩))) (fun hc7 => (mz_iload_n d_Store_isDirectory_4 rfl (mz_bipush (16 : Int32) d_Store_isDirectory_5 (by decide) (mz_icmp_ge 27 d_Store_isDirectory_7 rfl (fun hc6 => (mz_iconst (0 : Int32) d_Store_isDirectory_27 (by decide) (mz_iret .boolean d_Store_isDirectory_28 rfl rfl ⟨rfl, hL, _, rfl, ((h.2 hc7).1 hc6)⟩))) (fun hc6 => (mz_aload_n d_Store_isDirectory_10 rfl (mz_getR (k := 0) (a := (2, 0)) cl_1 d_Store_isDirectory_11 (by decide) wf_Store_11 rfl (hF 1 0 rfl (by decide)) rfl (hL (1, 0) 0 (2, 0) rfl rfl (by decide)) (mz_iload_n d_Store_isDirectory_14 rfl (match ((h.2 hc7).2 hc6) with | ⟨j1, h2, h3, h4⟩ => mz_aald (a := (3, j1)) j1 d_Store_isDirectory_15 (hF 2 0 rfl (by decide)) rfl h2 h3 (hL (2, 0) j1 (3, j1) rfl (mzLk_2 h3) (by decide)) (mz_getIN (k := 1) cl_2 d_Store_isDirectory_16 (by decide) wf_Store_18 rfl (hF 3 j1 rfl h3) rfl (mz_iconst (1 : Int32) d_Store_isDirectory_19 (by decide) (mz_icmp_ne 27 d_Store_isDirectory_20 rfl (fun hc5 => (mz_iconst (0 : Int32) d_Store_isDirectory_27 (by decide) (mz_iret .boolean d_Store_isDirectory_28 rfl rfl ⟨rfl, hL, _, rfl, (h4.1 hc5)⟩))) (fun hc5 => (mz_iconst (1 : Int32) d_Store_isDirectory_23 (by decide) (mz_goto 28 d_Store_isDirectory_24 rfl (mz_iret .boolean d_Store_isDirectory_28 rfl rfl ⟨rfl, hL, _, rfl, (h4.2 hc5)⟩)))))))))))))))))))
def mm_Node_isIn : MzT := (⟨"ParcelLine$Node", "isIn", "(I)Z"⟩, prog_8_method_2_code, 2, (Option.some Jvm.ClassFile.FieldType.boolean))
theorem cs_Node_isIn {mm : MzT} : mzCall mm mm_Node_isIn 1 := ⟨wn_Node, wco_Node_isIn, by decide +kernel, by decide⟩
theorem d_Node_isIn_0 : decode mm_Node_isIn.2.1 0 = .ok (.aload_n 0, 1) := by decide +kernel
theorem d_Node_isIn_1 : decode mm_Node_isIn.2.1 1 = .ok (.getfield 18, 3) := by decide +kernel
theorem d_Node_isIn_4 : decode mm_Node_isIn.2.1 4 = .ok (.ifCond .eq 15, 3) := by decide +kernel
theorem d_Node_isIn_7 : decode mm_Node_isIn.2.1 7 = .ok (.aload_n 0, 1) := by decide +kernel
theorem d_Node_isIn_8 : decode mm_Node_isIn.2.1 8 = .ok (.getfield 22, 3) := by decide +kernel
theorem d_Node_isIn_11 : decode mm_Node_isIn.2.1 11 = .ok (.iload_n 1, 1) := by decide +kernel
theorem d_Node_isIn_12 : decode mm_Node_isIn.2.1 12 = .ok (.if_icmp .ne 7, 3) := by decide +kernel
theorem d_Node_isIn_15 : decode mm_Node_isIn.2.1 15 = .ok (.iconst 1, 1) := by decide +kernel
theorem d_Node_isIn_16 : decode mm_Node_isIn.2.1 16 = .ok (.goto 4, 3) := by decide +kernel
theorem d_Node_isIn_19 : decode mm_Node_isIn.2.1 19 = .ok (.iconst 0, 1) := by decide +kernel
theorem d_Node_isIn_20 : decode mm_Node_isIn.2.1 20 = .ok (.ireturn, 1) := by decide +kernel
def wp_Node_isIn (n : Nat) (a1 : Int32) (M : MzM) (K : Int32 → MzM → Prop) : Prop := (((mz_i M (3, n) 1) = 0 → K (0 : Int32) M) ∧ (¬ (mz_i M (3, n) 1) = 0 → ((¬ (mz_i M (3, n) 2) = a1 → K (0 : Int32) M) ∧ ((mz_i M (3, n) 2) = a1 → K (1 : Int32) M))))
theorem tm_Node_isIn {G : MzG} {B : MzB} {d : Nat} {K : Int32 → MzM → Prop} (hF : mzLive false B) {n : Nat} (hn : n < 16) {a1 : Int32} {M : MzM} (hL : mzLnk false M) (h : wp_Node_isIn n a1 M K) : MzC G B d mm_Node_isIn [.ref (mz_ad B (3, n)), .int a1] M (0, 0) (mzK1 false B K) := by
  unfold wp_Node_isIn at h
  exact MzC.of rfl (Nat.le_of_ble_eq_true rfl) (show MzS G B d mm_Node_isIn M (0, 0) (mzK1 false B K) 0 [(0, .ref (mz_ad B (3, n))), (1, .int a1)] [] from (mz_aload_n d_Node_isIn_0 rfl (mz_getI (k := 1) cl_2 d_Node_isIn_1 (by decide) wf_Node_18 rfl (hF 3 n rfl hn) rfl (mz_if_eq 19 d_Node_isIn_4 rfl (fun hc2 => (mz_iconst (0 : Int32) d_Node_isIn_19 (by decide) (mz_iret .boolean d_Node_isIn_20 rfl rfl ⟨rfl, hL, _, rfl, (h.1 hc2)⟩))) (fun hc2 => (mz_aload_n d_Node_isIn_7 rfl (mz_getI (k := 2) cl_2 d_Node_isIn_8 (by decide) wf_Node_22 rfl (hF 3 n rfl hn) rfl (mz_iload_n d_Node_isIn_11 rfl (mz_icmp_ne 19 d_Node_isIn_12 rfl (fun hc1 => (mz_iconst (0 : Int32) d_Node_isIn_19 (by decide) (mz_iret .boolean d_Node_isIn_20 rfl rfl ⟨rfl, hL, _, rfl, ((h.2 hc2).1 hc1)⟩))) (fun hc1 => (mz_iconst (1 : Int32) d_Node_isIn_15 (by decide) (mz_goto 20 d_Node_isIn_16 rfl (mz_iret .boolean d_Node_isIn_20 rfl rfl ⟨rfl, hL, _, rfl, ((h.2 hc2).2 hc1)⟩)))))))))))))
def mm_Store_childNamed : MzT := (⟨"ParcelLine$Store", "childNamed", "(II)I"⟩, prog_12_method_7_code, 4, (Option.some Jvm.ClassFile.FieldType.int))
theorem cs_Store_childNamed {mm : MzT} : mzCall mm mm_Store_childNamed 2 := ⟨wn_Store, wco_Store_childNamed, by decide +kernel, by decide⟩
theorem d_Store_childNamed_0 : decode mm_Store_childNamed.2.1 0 = .ok (.iconst 1, 1) := by decide +kernel
theorem d_Store_childNamed_1 : decode mm_Store_childNamed.2.1 1 = .ok (.istore_n 3, 1) := by decide +kernel
theorem d_Store_childNamed_2 : decode mm_Store_childNamed.2.1 2 = .ok (.iload_n 3, 1) := by decide +kernel
theorem d_Store_childNamed_3 : decode mm_Store_childNamed.2.1 3 = .ok (.bipush 16, 2) := by decide +kernel
theorem d_Store_childNamed_5 : decode mm_Store_childNamed.2.1 5 = .ok (.if_icmp .ge 37, 3) := by decide +kernel
theorem d_Store_childNamed_8 : decode mm_Store_childNamed.2.1 8 = .ok (.aload_n 0, 1) := by decide +kernel
theorem d_Store_childNamed_9 : decode mm_Store_childNamed.2.1 9 = .ok (.getfield 11, 3) := by decide +kernel
theorem d_Store_childNamed_12 : decode mm_Store_childNamed.2.1 12 = .ok (.iload_n 3, 1) := by decide +kernel
theorem d_Store_childNamed_13 : decode mm_Store_childNamed.2.1 13 = .ok (.aaload, 1) := by decide +kernel
theorem d_Store_childNamed_14 : decode mm_Store_childNamed.2.1 14 = .ok (.iload_n 1, 1) := by decide +kernel
theorem d_Store_childNamed_15 : decode mm_Store_childNamed.2.1 15 = .ok (.invokevirtual 33, 3) := by decide +kernel
theorem d_Store_childNamed_18 : decode mm_Store_childNamed.2.1 18 = .ok (.ifCond .eq 18, 3) := by decide +kernel
theorem d_Store_childNamed_21 : decode mm_Store_childNamed.2.1 21 = .ok (.aload_n 0, 1) := by decide +kernel
theorem d_Store_childNamed_22 : decode mm_Store_childNamed.2.1 22 = .ok (.getfield 11, 3) := by decide +kernel
theorem d_Store_childNamed_25 : decode mm_Store_childNamed.2.1 25 = .ok (.iload_n 3, 1) := by decide +kernel
theorem d_Store_childNamed_26 : decode mm_Store_childNamed.2.1 26 = .ok (.aaload, 1) := by decide +kernel
theorem d_Store_childNamed_27 : decode mm_Store_childNamed.2.1 27 = .ok (.getfield 36, 3) := by decide +kernel
theorem d_Store_childNamed_30 : decode mm_Store_childNamed.2.1 30 = .ok (.iload_n 2, 1) := by decide +kernel
theorem d_Store_childNamed_31 : decode mm_Store_childNamed.2.1 31 = .ok (.if_icmp .ne 5, 3) := by decide +kernel
theorem d_Store_childNamed_34 : decode mm_Store_childNamed.2.1 34 = .ok (.iload_n 3, 1) := by decide +kernel
theorem d_Store_childNamed_35 : decode mm_Store_childNamed.2.1 35 = .ok (.ireturn, 1) := by decide +kernel
theorem d_Store_childNamed_36 : decode mm_Store_childNamed.2.1 36 = .ok (.iinc 3 1, 3) := by decide +kernel
theorem d_Store_childNamed_39 : decode mm_Store_childNamed.2.1 39 = .ok (.goto (-37), 3) := by decide +kernel
theorem d_Store_childNamed_42 : decode mm_Store_childNamed.2.1 42 = .ok (.iconst (-1), 1) := by decide +kernel
theorem d_Store_childNamed_43 : decode mm_Store_childNamed.2.1 43 = .ok (.ireturn, 1) := by decide +kernel
def wp_Store_childNamed_36  (H2 : Int32 → Int32 → Int32 → MzM → Prop) (K : Int32 → MzM → Prop) (y1 : Int32) (y2 : Int32) (y3 : Int32) (M : MzM) : Prop := H2 y1 y2 (y3 + (1 : Int32)) M
def wp_Store_childNamed_2   (K : Int32 → MzM → Prop) : Nat → Int32 → Int32 → Int32 → MzM → Prop
  | 0, _, _, _, _ => False
  | r0 + 1, y1, y2, y3, M => (((16 : Int32) ≤ y3 → K (-1 : Int32) M) ∧ (¬ (16 : Int32) ≤ y3 → (∃ j3 : Nat, y3.toInt = (j3 : Int) ∧ j3 < 16 ∧ wp_Node_isIn j3 y1 M (fun v10 M7 => ((v10 = 0 → wp_Store_childNamed_36  (wp_Store_childNamed_2   K r0) K y1 y2 y3 M7) ∧ (¬ v10 = 0 → (∃ j11 : Nat, y3.toInt = (j11 : Int) ∧ j11 < 16 ∧ ((¬ (mz_i M7 (3, j11) 3) = y2 → wp_Store_childNamed_36  (wp_Store_childNamed_2   K r0) K y1 y2 y3 M7) ∧ ((mz_i M7 (3, j11) 3) = y2 → K y3 M7)))))))))
def wp_Store_childNamed  (a1 : Int32) (a2 : Int32) (M : MzM) (K : Int32 → MzM → Prop) : Prop := (∃ r1 : Nat, wp_Store_childNamed_2   K r1 a1 a2 (1 : Int32) M)
theorem tm_Store_childNamed_36 {G : MzG} {B : MzB} {d : Nat} {K : Int32 → MzM → Prop} (hF : mzLive false B)   {H2 : Int32 → Int32 → Int32 → MzM → Prop} (hH2 : ∀ (y1 : Int32) (y2 : Int32) (y3 : Int32) (M : MzM), mzLnk false M → H2 y1 y2 y3 M → MzS G B (d + 1) mm_Store_childNamed M (0, 0) (mzK1 false B K) 2 [(0, .ref (mz_ad B (1, 0))), (1, .int y1), (2, .int y2), (3, .int y3)] []) (y1 : Int32) (y2 : Int32) (y3 : Int32) (M : MzM) (hL : mzLnk false M) (h : wp_Store_childNamed_36  H2 K y1 y2 y3 M) : MzS G B (d + 1) mm_Store_childNamed M (0, 0) (mzK1 false B K) 36 [(0, .ref (mz_ad B (1, 0))), (1, .int y1), (2, .int y2), (3, .int y3)] [] := by
  unfold wp_Store_childNamed_36 at h
  exact (mz_iinc (y3 + (1 : Int32)) d_Store_childNamed_36 rfl (by decide) rfl (mz_goto 2 d_Store_childNamed_39 rfl (MzS.loc [(0, .ref (mz_ad B (1, 0))), (1, .int y1), (2, .int y2), (3, .int (y3 + (1 : Int32)))] ⟨rfl, rfl, rfl, rfl, trivial⟩ (hH2 y1 y2 (y3 + (1 : Int32)) M hL h))))
theorem tm_Store_childNamed_2 {G : MzG} {B : MzB} {d : Nat} {K : Int32 → MzM → Prop} (hF : mzLive false B)     : ∀ (r0 : Nat) (y1 : Int32) (y2 : Int32) (y3 : Int32) (M : MzM), mzLnk false M → wp_Store_childNamed_2   K r0 y1 y2 y3 M → MzS G B (d + 1) mm_Store_childNamed M (0, 0) (mzK1 false B K) 2 [(0, .ref (mz_ad B (1, 0))), (1, .int y1), (2, .int y2), (3, .int y3)] [] := by
  intro r0
  induction r0 with
  | zero => intro y1 y2 y3 M hL h; exact False.elim h
  | succ r0 hH2 =>
    intro y1 y2 y3 M hL h
    unfold wp_Store_childNamed_2 at h
    exact (mz_iload_n d_Store_childNamed_2 rfl (mz_bipush (16 : Int32) d_Store_childNamed_3 (by decide) (mz_icmp_ge 42 d_Store_childNamed_5 rfl (fun hc17 => (mz_iconst (-1 : Int32) d_Store_childNamed_42 (by decide) (mz_iret .int d_Store_childNamed_43 rfl rfl ⟨rfl, hL, _, rfl, (h.1 hc17)⟩))) (fun hc17 => (mz_aload_n d_Store_childNamed_8 rfl (mz_getR (k := 0) (a := (2, 0)) cl_1 d_Store_childNamed_9 (by decide) wf_Store_11 rfl (hF 1 0 rfl (by decide)) rfl (hL (1, 0) 0 (2, 0) rfl rfl (by decide)) (mz_iload_n d_Store_childNamed_12 rfl (match (h.2 hc17) with | ⟨j3, h4, h5, h6⟩ => mz_aald (a := (3, j3)) j3 d_Store_childNamed_13 (hF 2 0 rfl (by decide)) rfl h4 h5 (hL (2, 0) j3 (3, j3) rfl (mzLk_2 h5) (by decide)) (mz_iload_n d_Store_childNamed_14 rfl (mz_callV (As := [.int y1]) (st := []) (hF 3 j3 rfl h5) rfl (mzClOf cl_2) 0 0 d_Store_childNamed_15 cs_Node_isIn wl_Store_33 wi_Node_isIn wse_Node_isIn (Nat.le_of_ble_eq_true rfl) (Nat.zero_le _) (Nat.zero_le _) (MzC.mono (tm_Node_isIn (d := d) hF h5 hL h6) (fun r9 B9 M7 hq9 => by obtain ⟨rfl, hL8, v10, rfl, hq9⟩ := hq9; exact ⟨_, rfl, (mz_if_eq 36 d_Store_childNamed_18 rfl (fun hc16 => (MzS.loc [(0, .ref (mz_ad B (1, 0))), (1, .int y1), (2, .int y2), (3, .int y3)] ⟨rfl, rfl, rfl, rfl, trivial⟩ (tm_Store_childNamed_36 hF  hH2 y1 y2 y3 M7 hL8 (hq9.1 hc16)))) (fun hc16 => (mz_aload_n d_Store_childNamed_21 rfl (mz_getR (k := 0) (a := (2, 0)) cl_1 d_Store_childNamed_22 (by decide) wf_Store_11 rfl (hF 1 0 rfl (by decide)) rfl (hL8 (1, 0) 0 (2, 0) rfl rfl (by decide)) (mz_iload_n d_Store_childNamed_25 rfl (match (hq9.2 hc16) with | ⟨j11, h12, h13, h14⟩ => mz_aald (a := (3, j11)) j11 d_Store_childNamed_26 (hF 2 0 rfl (by decide)) rfl h12 h13 (hL8 (2, 0) j11 (3, j11) rfl (mzLk_2 h13) (by decide)) (mz_getIN (k := 3) cl_2 d_Store_childNamed_27 (by decide) wf_Store_36 rfl (hF 3 j11 rfl h13) rfl (mz_iload_n d_Store_childNamed_30 rfl (mz_icmp_ne 36 d_Store_childNamed_31 rfl (fun hc15 => (MzS.loc [(0, .ref (mz_ad B (1, 0))), (1, .int y1), (2, .int y2), (3, .int y3)] ⟨rfl, rfl, rfl, rfl, trivial⟩ (tm_Store_childNamed_36 hF  hH2 y1 y2 y3 M7 hL8 (h14.1 hc15)))) (fun hc15 => (mz_iload_n d_Store_childNamed_34 rfl (mz_iret .int d_Store_childNamed_35 rfl rfl ⟨rfl, hL8, _, rfl, (h14.2 hc15)⟩))))))))))))⟩))))))))))))
theorem tm_Store_childNamed {G : MzG} {B : MzB} {d : Nat} {K : Int32 → MzM → Prop} (hF : mzLive false B)   {a1 : Int32} {a2 : Int32} {M : MzM} (hL : mzLnk false M) (h : wp_Store_childNamed  a1 a2 M K) : MzC G B (d + 1) mm_Store_childNamed [.ref (mz_ad B (1, 0)), .int a1, .int a2] M (0, 0) (mzK1 false B K) := by
  unfold wp_Store_childNamed at h
  exact MzC.of rfl (Nat.le_of_ble_eq_true rfl) (show MzS G B (d + 1) mm_Store_childNamed M (0, 0) (mzK1 false B K) 0 [(0, .ref (mz_ad B (1, 0))), (1, .int a1), (2, .int a2)] [] from (mz_iconst (1 : Int32) d_Store_childNamed_0 (by decide) (mz_istore_n d_Store_childNamed_1 (by decide) (MzS.loc [(0, .ref (mz_ad B (1, 0))), (1, .int a1), (2, .int a2), (3, .int (1 : Int32))] ⟨rfl, rfl, rfl, rfl, trivial⟩ (match h with | ⟨r1, h2⟩ => tm_Store_childNamed_2 hF   r1 a1 a2 (1 : Int32) M hL h2)))))
