def mm_Way_receiveByte : MzT := (⟨"ParcelLine$DataWay", "receiveByte", "(I)V"⟩, prog_6_method_7_code, 3, (Option.none : Option Jvm.ClassFile.FieldType))
theorem cs_Way_receiveByte {mm : MzT} : mzCall mm mm_Way_receiveByte 1 := ⟨wn_Way, wco_Way_receiveByte, by decide +kernel, by decide⟩
theorem d_Way_receiveByte_0 : decode mm_Way_receiveByte.2.1 0 = .ok (.aload_n 0, 1) := by decide +kernel
theorem d_Way_receiveByte_1 : decode mm_Way_receiveByte.2.1 1 = .ok (.getfield 22, 3) := by decide +kernel
theorem d_Way_receiveByte_4 : decode mm_Way_receiveByte.2.1 4 = .ok (.ifnonnull 4, 3) := by decide +kernel
theorem d_Way_receiveByte_7 : decode mm_Way_receiveByte.2.1 7 = .ok (.return_, 1) := by decide +kernel
theorem d_Way_receiveByte_8 : decode mm_Way_receiveByte.2.1 8 = .ok (.aload_n 0, 1) := by decide +kernel
theorem d_Way_receiveByte_9 : decode mm_Way_receiveByte.2.1 9 = .ok (.getfield 58, 3) := by decide +kernel
theorem d_Way_receiveByte_12 : decode mm_Way_receiveByte.2.1 12 = .ok (.istore_n 2, 1) := by decide +kernel
theorem d_Way_receiveByte_13 : decode mm_Way_receiveByte.2.1 13 = .ok (.aload_n 0, 1) := by decide +kernel
theorem d_Way_receiveByte_14 : decode mm_Way_receiveByte.2.1 14 = .ok (.iconst 0, 1) := by decide +kernel
theorem d_Way_receiveByte_15 : decode mm_Way_receiveByte.2.1 15 = .ok (.putfield 58, 3) := by decide +kernel
theorem d_Way_receiveByte_18 : decode mm_Way_receiveByte.2.1 18 = .ok (.iload_n 2, 1) := by decide +kernel
theorem d_Way_receiveByte_19 : decode mm_Way_receiveByte.2.1 19 = .ok (.ifCond .eq 21, 3) := by decide +kernel
theorem d_Way_receiveByte_22 : decode mm_Way_receiveByte.2.1 22 = .ok (.iload_n 1, 1) := by decide +kernel
theorem d_Way_receiveByte_23 : decode mm_Way_receiveByte.2.1 23 = .ok (.bipush 10, 2) := by decide +kernel
theorem d_Way_receiveByte_25 : decode mm_Way_receiveByte.2.1 25 = .ok (.if_icmp .eq 15, 3) := by decide +kernel
theorem d_Way_receiveByte_28 : decode mm_Way_receiveByte.2.1 28 = .ok (.aload_n 0, 1) := by decide +kernel
theorem d_Way_receiveByte_29 : decode mm_Way_receiveByte.2.1 29 = .ok (.getfield 22, 3) := by decide +kernel
theorem d_Way_receiveByte_32 : decode mm_Way_receiveByte.2.1 32 = .ok (.getfield 31, 3) := by decide +kernel
theorem d_Way_receiveByte_35 : decode mm_Way_receiveByte.2.1 35 = .ok (.bipush 13, 2) := by decide +kernel
theorem d_Way_receiveByte_37 : decode mm_Way_receiveByte.2.1 37 = .ok (.invokevirtual 61, 3) := by decide +kernel
theorem d_Way_receiveByte_40 : decode mm_Way_receiveByte.2.1 40 = .ok (.aload_n 0, 1) := by decide +kernel
theorem d_Way_receiveByte_41 : decode mm_Way_receiveByte.2.1 41 = .ok (.getfield 48, 3) := by decide +kernel
theorem d_Way_receiveByte_44 : decode mm_Way_receiveByte.2.1 44 = .ok (.ifCond .eq 17, 3) := by decide +kernel
theorem d_Way_receiveByte_47 : decode mm_Way_receiveByte.2.1 47 = .ok (.iload_n 1, 1) := by decide +kernel
theorem d_Way_receiveByte_48 : decode mm_Way_receiveByte.2.1 48 = .ok (.bipush 13, 2) := by decide +kernel
theorem d_Way_receiveByte_50 : decode mm_Way_receiveByte.2.1 50 = .ok (.if_icmp .ne 11, 3) := by decide +kernel
theorem d_Way_receiveByte_53 : decode mm_Way_receiveByte.2.1 53 = .ok (.aload_n 0, 1) := by decide +kernel
theorem d_Way_receiveByte_54 : decode mm_Way_receiveByte.2.1 54 = .ok (.iconst 1, 1) := by decide +kernel
theorem d_Way_receiveByte_55 : decode mm_Way_receiveByte.2.1 55 = .ok (.putfield 58, 3) := by decide +kernel
theorem d_Way_receiveByte_58 : decode mm_Way_receiveByte.2.1 58 = .ok (.goto 14, 3) := by decide +kernel
theorem d_Way_receiveByte_61 : decode mm_Way_receiveByte.2.1 61 = .ok (.aload_n 0, 1) := by decide +kernel
theorem d_Way_receiveByte_62 : decode mm_Way_receiveByte.2.1 62 = .ok (.getfield 22, 3) := by decide +kernel
theorem d_Way_receiveByte_65 : decode mm_Way_receiveByte.2.1 65 = .ok (.getfield 31, 3) := by decide +kernel
theorem d_Way_receiveByte_68 : decode mm_Way_receiveByte.2.1 68 = .ok (.iload_n 1, 1) := by decide +kernel
theorem d_Way_receiveByte_69 : decode mm_Way_receiveByte.2.1 69 = .ok (.invokevirtual 61, 3) := by decide +kernel
theorem d_Way_receiveByte_72 : decode mm_Way_receiveByte.2.1 72 = .ok (.return_, 1) := by decide +kernel
def wp_Way_receiveByte_40 (x : Nat)  (K : MzM → Prop) (y1 : Int32) (M : MzM) : Prop := (((mz_i M (16, x) 2) = 0 → ((mz_r M (16, x) 4 = none → False) ∧ (∀ n17 : Nat, n17 < 16 → mz_r M (16, x) 4 = some (3, n17) → wp_Row_add n17 y1 M (fun M20 => K M20)) ∧ (mz_r M (16, x) 4 = none ∨ ∃ n17 : Nat, n17 < 16 ∧ mz_r M (16, x) 4 = some (3, n17)))) ∧ (¬ (mz_i M (16, x) 2) = 0 → ((¬ y1 = (13 : Int32) → ((mz_r M (16, x) 4 = none → False) ∧ (∀ n25 : Nat, n25 < 16 → mz_r M (16, x) 4 = some (3, n25) → wp_Row_add n25 y1 M (fun M28 => K M28)) ∧ (mz_r M (16, x) 4 = none ∨ ∃ n25 : Nat, n25 < 16 ∧ mz_r M (16, x) 4 = some (3, n25)))) ∧ (y1 = (13 : Int32) → (∀ M33 : MzM, M33 = mz_si M (16, x) 3 (1 : Int32) → K M33)))))
def wp_Way_receiveByte (x : Nat) (a1 : Int32) (M : MzM) (K : MzM → Prop) : Prop := ((mz_r M (16, x) 4 = none → K M) ∧ (∀ n1 : Nat, n1 < 16 → mz_r M (16, x) 4 = some (3, n1) → (∀ M4 : MzM, M4 = mz_si M (16, x) 3 (0 : Int32) → (((mz_i M (16, x) 3) = 0 → wp_Way_receiveByte_40 x  K a1 M4) ∧ (¬ (mz_i M (16, x) 3) = 0 → ((a1 = (10 : Int32) → wp_Way_receiveByte_40 x  K a1 M4) ∧ (¬ a1 = (10 : Int32) → ((mz_r M4 (16, x) 4 = none → False) ∧ (∀ n5 : Nat, n5 < 16 → mz_r M4 (16, x) 4 = some (3, n5) → wp_Row_add n5 (13 : Int32) M4 (fun M8 => wp_Way_receiveByte_40 x  K a1 M8)) ∧ (mz_r M4 (16, x) 4 = none ∨ ∃ n5 : Nat, n5 < 16 ∧ mz_r M4 (16, x) 4 = some (3, n5))))))))) ∧ (mz_r M (16, x) 4 = none ∨ ∃ n1 : Nat, n1 < 16 ∧ mz_r M (16, x) 4 = some (3, n1)))
theorem tm_Way_receiveByte_40 {G : MzG} {B : MzB} {d : Nat} {K : MzM → Prop} (hF : mzLive false B) {x : Nat} (hx : x < 2)   (y1 : Int32) (M : MzM) (hL : mzLnk false M) (h : wp_Way_receiveByte_40 x  K y1 M) : MzS G B (d + 1) mm_Way_receiveByte M (0, 0) (mzK0 false B K) 40 [(0, .ref (mz_ad B (16, x))), (1, .int y1)] [] := by
  unfold wp_Way_receiveByte_40 at h
  exact (mz_aload_n d_Way_receiveByte_40 rfl (mz_getI (k := 2) cl_8 d_Way_receiveByte_41 (by decide) wf_Way_48 rfl (hF 16 x rfl hx) rfl (mz_if_eq 61 d_Way_receiveByte_44 rfl (fun hc35 => (mz_aload_n d_Way_receiveByte_61 rfl (match (h.1 hc35) with | ⟨ha23, _, Or.inl he19⟩ => mz_getO (k := 4) cl_8 d_Way_receiveByte_62 (by decide) wf_Way_22 rfl (hF 16 x rfl hx) rfl he19 (False.elim (ha23 he19)) | ⟨_, hb24, Or.inr ⟨n17, hn18, he19⟩⟩ => mz_getR (k := 4) cl_8 d_Way_receiveByte_62 (by decide) wf_Way_22 rfl (hF 16 x rfl hx) rfl he19 (mz_getRN (k := 0) (a := (4, n17)) cl_2 d_Way_receiveByte_65 (by decide) wf_Way_31 rfl (hF 3 n17 rfl hn18) rfl (hL (3, n17) 0 (4, n17) rfl rfl hn18) (mz_iload_n d_Way_receiveByte_68 rfl (mz_callV (As := [.int y1]) (st := []) (hF 4 n17 rfl hn18) rfl (mzClOf cl_3) 0 0 d_Way_receiveByte_69 cs_Row_add wl_Way_61 wi_Row_add wse_Row_add (Nat.le_of_ble_eq_true rfl) (Nat.zero_le _) (Nat.zero_le _) (MzC.mono (tm_Row_add (d := d) hF hn18 hL (hb24 n17 hn18 he19)) (fun r9 B9 M20 hq22 => by obtain ⟨rfl, hL21, rfl, hq22⟩ := hq22; exact ⟨none, rfl, (mz_vret d_Way_receiveByte_72 rfl ⟨rfl, hL21, rfl, hq22⟩)⟩)))))))) (fun hc35 => (mz_iload_n d_Way_receiveByte_47 rfl (mz_bipush (13 : Int32) d_Way_receiveByte_48 (by decide) (mz_icmp_ne 61 d_Way_receiveByte_50 rfl (fun hc34 => (mz_aload_n d_Way_receiveByte_61 rfl (match ((h.2 hc35).1 hc34) with | ⟨ha31, _, Or.inl he27⟩ => mz_getO (k := 4) cl_8 d_Way_receiveByte_62 (by decide) wf_Way_22 rfl (hF 16 x rfl hx) rfl he27 (False.elim (ha31 he27)) | ⟨_, hb32, Or.inr ⟨n25, hn26, he27⟩⟩ => mz_getR (k := 4) cl_8 d_Way_receiveByte_62 (by decide) wf_Way_22 rfl (hF 16 x rfl hx) rfl he27 (mz_getRN (k := 0) (a := (4, n25)) cl_2 d_Way_receiveByte_65 (by decide) wf_Way_31 rfl (hF 3 n25 rfl hn26) rfl (hL (3, n25) 0 (4, n25) rfl rfl hn26) (mz_iload_n d_Way_receiveByte_68 rfl (mz_callV (As := [.int y1]) (st := []) (hF 4 n25 rfl hn26) rfl (mzClOf cl_3) 0 0 d_Way_receiveByte_69 cs_Row_add wl_Way_61 wi_Row_add wse_Row_add (Nat.le_of_ble_eq_true rfl) (Nat.zero_le _) (Nat.zero_le _) (MzC.mono (tm_Row_add (d := d) hF hn26 hL (hb32 n25 hn26 he27)) (fun r9 B9 M28 hq30 => by obtain ⟨rfl, hL29, rfl, hq30⟩ := hq30; exact ⟨none, rfl, (mz_vret d_Way_receiveByte_72 rfl ⟨rfl, hL29, rfl, hq30⟩)⟩)))))))) (fun hc34 => (mz_aload_n d_Way_receiveByte_53 rfl (mz_iconst (1 : Int32) d_Way_receiveByte_54 (by decide) (mz_putI (k := 3) cl_8 d_Way_receiveByte_55 (by decide) wf_Way_58 rfl rfl rfl rfl (hF 16 x rfl hx) rfl (let M33 : MzM := mz_si M (16, x) 3 (1 : Int32); (mz_goto 72 d_Way_receiveByte_58 rfl (mz_vret d_Way_receiveByte_72 rfl ⟨rfl, hL, rfl, (((h.2 hc35).2 hc34) M33 rfl)⟩))))))))))))))
theorem tm_Way_receiveByte {G : MzG} {B : MzB} {d : Nat} {K : MzM → Prop} (hF : mzLive false B) {x : Nat} (hx : x < 2) {a1 : Int32} {M : MzM} (hL : mzLnk false M) (h : wp_Way_receiveByte x a1 M K) : MzC G B (d + 1) mm_Way_receiveByte [.ref (mz_ad B (16, x)), .int a1] M (0, 0) (mzK0 false B K) := by
  unfold wp_Way_receiveByte at h
  exact MzC.of rfl (Nat.le_of_ble_eq_true rfl) (show MzS G B (d + 1) mm_Way_receiveByte M (0, 0) (mzK0 false B K) 0 [(0, .ref (mz_ad B (16, x))), (1, .int a1)] [] from (mz_aload_n d_Way_receiveByte_0 rfl (match h with | ⟨ha15, _, Or.inl he3⟩ => mz_getO (k := 4) cl_8 d_Way_receiveByte_1 (by decide) wf_Way_22 rfl (hF 16 x rfl hx) rfl he3 (mz_ifnonnullN d_Way_receiveByte_4 (mz_vret d_Way_receiveByte_7 rfl ⟨rfl, hL, rfl, (ha15 he3)⟩)) | ⟨_, hb16, Or.inr ⟨n1, hn2, he3⟩⟩ => mz_getR (k := 4) cl_8 d_Way_receiveByte_1 (by decide) wf_Way_22 rfl (hF 16 x rfl hx) rfl he3 (mz_ifnonnull 8 d_Way_receiveByte_4 rfl (mz_aload_n d_Way_receiveByte_8 rfl (mz_getI (k := 3) cl_8 d_Way_receiveByte_9 (by decide) wf_Way_58 rfl (hF 16 x rfl hx) rfl (mz_istore_n d_Way_receiveByte_12 (by decide) (mz_aload_n d_Way_receiveByte_13 rfl (mz_iconst (0 : Int32) d_Way_receiveByte_14 (by decide) (mz_putI (k := 3) cl_8 d_Way_receiveByte_15 (by decide) wf_Way_58 rfl rfl rfl rfl (hF 16 x rfl hx) rfl (let M4 : MzM := mz_si M (16, x) 3 (0 : Int32); (mz_iload_n d_Way_receiveByte_18 rfl (mz_if_eq 40 d_Way_receiveByte_19 rfl (fun hc14 => (MzS.loc [(0, .ref (mz_ad B (16, x))), (1, .int a1)] ⟨rfl, rfl, trivial⟩ (tm_Way_receiveByte_40 hF hx  a1 M4 hL (((hb16 n1 hn2 he3) M4 rfl).1 hc14)))) (fun hc14 => (mz_iload_n d_Way_receiveByte_22 rfl (mz_bipush (10 : Int32) d_Way_receiveByte_23 (by decide) (mz_icmp_eq 40 d_Way_receiveByte_25 rfl (fun hc13 => (MzS.loc [(0, .ref (mz_ad B (16, x))), (1, .int a1)] ⟨rfl, rfl, trivial⟩ (tm_Way_receiveByte_40 hF hx  a1 M4 hL ((((hb16 n1 hn2 he3) M4 rfl).2 hc14).1 hc13)))) (fun hc13 => (mz_aload_n d_Way_receiveByte_28 rfl (match ((((hb16 n1 hn2 he3) M4 rfl).2 hc14).2 hc13) with | ⟨ha11, _, Or.inl he7⟩ => mz_getO (k := 4) cl_8 d_Way_receiveByte_29 (by decide) wf_Way_22 rfl (hF 16 x rfl hx) rfl he7 (False.elim (ha11 he7)) | ⟨_, hb12, Or.inr ⟨n5, hn6, he7⟩⟩ => mz_getR (k := 4) cl_8 d_Way_receiveByte_29 (by decide) wf_Way_22 rfl (hF 16 x rfl hx) rfl he7 (mz_getRN (k := 0) (a := (4, n5)) cl_2 d_Way_receiveByte_32 (by decide) wf_Way_31 rfl (hF 3 n5 rfl hn6) rfl (hL (3, n5) 0 (4, n5) rfl rfl hn6) (mz_bipush (13 : Int32) d_Way_receiveByte_35 (by decide) (mz_callV (As := [.int (13 : Int32)]) (st := []) (hF 4 n5 rfl hn6) rfl (mzClOf cl_3) 0 0 d_Way_receiveByte_37 cs_Row_add wl_Way_61 wi_Row_add wse_Row_add (Nat.le_of_ble_eq_true rfl) (Nat.zero_le _) (Nat.zero_le _) (MzC.mono (tm_Row_add (d := d) hF hn6 hL (hb12 n5 hn6 he7)) (fun r9 B9 M8 hq10 => by obtain ⟨rfl, hL9, rfl, hq10⟩ := hq10; exact ⟨none, rfl, (MzS.loc [(0, .ref (mz_ad B (16, x))), (1, .int a1)] ⟨rfl, rfl, trivial⟩ (tm_Way_receiveByte_40 hF hx  a1 M8 hL9 hq10))⟩)))))))))))))))))))))))))
def mm_Way_sendNext : MzT := (⟨"ParcelLine$DataWay", "sendNext", "()I"⟩, prog_6_method_9_code, 2, (Option.some Jvm.ClassFile.FieldType.int))
theorem cs_Way_sendNext {mm : MzT} : mzCall mm mm_Way_sendNext 0 := ⟨wn_Way, wco_Way_sendNext, by decide +kernel, by decide⟩
theorem d_Way_sendNext_0 : decode mm_Way_sendNext.2.1 0 = .ok (.aload_n 0, 1) := by decide +kernel
theorem d_Way_sendNext_1 : decode mm_Way_sendNext.2.1 1 = .ok (.getfield 64, 3) := by decide +kernel
theorem d_Way_sendNext_4 : decode mm_Way_sendNext.2.1 4 = .ok (.aload_n 0, 1) := by decide +kernel
theorem d_Way_sendNext_5 : decode mm_Way_sendNext.2.1 5 = .ok (.getfield 15, 3) := by decide +kernel
theorem d_Way_sendNext_8 : decode mm_Way_sendNext.2.1 8 = .ok (.if_icmp .ge 12, 3) := by decide +kernel
theorem d_Way_sendNext_11 : decode mm_Way_sendNext.2.1 11 = .ok (.aload_n 0, 1) := by decide +kernel
theorem d_Way_sendNext_12 : decode mm_Way_sendNext.2.1 12 = .ok (.getfield 64, 3) := by decide +kernel
theorem d_Way_sendNext_15 : decode mm_Way_sendNext.2.1 15 = .ok (.bipush 75, 2) := by decide +kernel
theorem d_Way_sendNext_17 : decode mm_Way_sendNext.2.1 17 = .ok (.if_icmp .lt 5, 3) := by decide +kernel
theorem d_Way_sendNext_20 : decode mm_Way_sendNext.2.1 20 = .ok (.iconst (-1), 1) := by decide +kernel
theorem d_Way_sendNext_21 : decode mm_Way_sendNext.2.1 21 = .ok (.ireturn, 1) := by decide +kernel
theorem d_Way_sendNext_22 : decode mm_Way_sendNext.2.1 22 = .ok (.aload_n 0, 1) := by decide +kernel
theorem d_Way_sendNext_23 : decode mm_Way_sendNext.2.1 23 = .ok (.getfield 9, 3) := by decide +kernel
theorem d_Way_sendNext_26 : decode mm_Way_sendNext.2.1 26 = .ok (.aload_n 0, 1) := by decide +kernel
theorem d_Way_sendNext_27 : decode mm_Way_sendNext.2.1 27 = .ok (.getfield 64, 3) := by decide +kernel
theorem d_Way_sendNext_30 : decode mm_Way_sendNext.2.1 30 = .ok (.iaload, 1) := by decide +kernel
theorem d_Way_sendNext_31 : decode mm_Way_sendNext.2.1 31 = .ok (.istore_n 1, 1) := by decide +kernel
theorem d_Way_sendNext_32 : decode mm_Way_sendNext.2.1 32 = .ok (.aload_n 0, 1) := by decide +kernel
theorem d_Way_sendNext_33 : decode mm_Way_sendNext.2.1 33 = .ok (.dup, 1) := by decide +kernel
theorem d_Way_sendNext_34 : decode mm_Way_sendNext.2.1 34 = .ok (.getfield 64, 3) := by decide +kernel
theorem d_Way_sendNext_37 : decode mm_Way_sendNext.2.1 37 = .ok (.iconst 1, 1) := by decide +kernel
theorem d_Way_sendNext_38 : decode mm_Way_sendNext.2.1 38 = .ok (.iadd, 1) := by decide +kernel
theorem d_Way_sendNext_39 : decode mm_Way_sendNext.2.1 39 = .ok (.putfield 64, 3) := by decide +kernel
theorem d_Way_sendNext_42 : decode mm_Way_sendNext.2.1 42 = .ok (.iload_n 1, 1) := by decide +kernel
theorem d_Way_sendNext_43 : decode mm_Way_sendNext.2.1 43 = .ok (.ireturn, 1) := by decide +kernel
def wp_Way_sendNext (x : Nat)  (M : MzM) (K : Int32 → MzM → Prop) : Prop := (((mz_i M (16, x) 7) ≤ (mz_i M (16, x) 6) → K (-1 : Int32) M) ∧ (¬ (mz_i M (16, x) 7) ≤ (mz_i M (16, x) 6) → (((mz_i M (16, x) 6) < (75 : Int32) → (∃ j1 : Nat, (mz_i M (16, x) 6).toInt = (j1 : Int) ∧ j1 < 75 ∧ (∀ M5 : MzM, M5 = mz_si M (16, x) 6 ((mz_i M (16, x) 6) + (1 : Int32)) → K (mz_i M (17, x) j1) M5))) ∧ (¬ (mz_i M (16, x) 6) < (75 : Int32) → K (-1 : Int32) M))))
theorem tm_Way_sendNext {G : MzG} {B : MzB} {d : Nat} {K : Int32 → MzM → Prop} (hF : mzLive false B) {x : Nat} (hx : x < 2)  {M : MzM} (hL : mzLnk false M) (h : wp_Way_sendNext x  M K) : MzC G B d mm_Way_sendNext [.ref (mz_ad B (16, x))] M (0, 0) (mzK1 false B K) := by
  unfold wp_Way_sendNext at h
  exact MzC.of rfl (Nat.le_of_ble_eq_true rfl) (show MzS G B d mm_Way_sendNext M (0, 0) (mzK1 false B K) 0 [(0, .ref (mz_ad B (16, x)))] [] from (mz_aload_n d_Way_sendNext_0 rfl (mz_getI (k := 6) cl_8 d_Way_sendNext_1 (by decide) wf_Way_64 rfl (hF 16 x rfl hx) rfl (mz_aload_n d_Way_sendNext_4 rfl (mz_getI (k := 7) cl_8 d_Way_sendNext_5 (by decide) wf_Way_15 rfl (hF 16 x rfl hx) rfl (mz_icmp_ge 20 d_Way_sendNext_8 rfl (fun hc7 => (mz_iconst (-1 : Int32) d_Way_sendNext_20 (by decide) (mz_iret .int d_Way_sendNext_21 rfl rfl ⟨rfl, hL, _, rfl, (h.1 hc7)⟩))) (fun hc7 => (mz_aload_n d_Way_sendNext_11 rfl (mz_getI (k := 6) cl_8 d_Way_sendNext_12 (by decide) wf_Way_64 rfl (hF 16 x rfl hx) rfl (mz_bipush (75 : Int32) d_Way_sendNext_15 (by decide) (mz_icmp_lt 22 d_Way_sendNext_17 rfl (fun hc6 => (mz_aload_n d_Way_sendNext_22 rfl (mz_getR (k := 5) (a := (17, x)) cl_8 d_Way_sendNext_23 (by decide) wf_Way_9 rfl (hF 16 x rfl hx) rfl (hL (16, x) 5 (17, x) rfl rfl hx) (mz_aload_n d_Way_sendNext_26 rfl (mz_getI (k := 6) cl_8 d_Way_sendNext_27 (by decide) wf_Way_64 rfl (hF 16 x rfl hx) rfl (match ((h.2 hc7).1 hc6) with | ⟨j1, h2, h3, h4⟩ => mz_iald j1 d_Way_sendNext_30 (hF 17 x rfl hx) rfl h2 h3 (mz_istore_n d_Way_sendNext_31 (by decide) (mz_aload_n d_Way_sendNext_32 rfl (mz_dup d_Way_sendNext_33 rfl (mz_getI (k := 6) cl_8 d_Way_sendNext_34 (by decide) wf_Way_64 rfl (hF 16 x rfl hx) rfl (mz_iconst (1 : Int32) d_Way_sendNext_37 (by decide) (mz_iadd d_Way_sendNext_38 (mz_putI (k := 6) cl_8 d_Way_sendNext_39 (by decide) wf_Way_64 rfl rfl rfl rfl (hF 16 x rfl hx) rfl (let M5 : MzM := mz_si M (16, x) 6 ((mz_i M (16, x) 6) + (1 : Int32)); (mz_iload_n d_Way_sendNext_42 rfl (mz_iret .int d_Way_sendNext_43 rfl rfl ⟨rfl, hL, _, rfl, (h4 M5 rfl)⟩)))))))))))))))) (fun hc6 => (mz_iconst (-1 : Int32) d_Way_sendNext_20 (by decide) (mz_iret .int d_Way_sendNext_21 rfl rfl ⟨rfl, hL, _, rfl, ((h.2 hc7).2 hc6)⟩))))))))))))))
def mm_Ses_sendByte : MzT := (⟨"ParcelLine$Session", "sendByte", "()I"⟩, prog_11_method_7_code, 2, (Option.some Jvm.ClassFile.FieldType.int))
theorem cs_Ses_sendByte {mm : MzT} : mzCall mm mm_Ses_sendByte 0 := ⟨wn_Ses, wco_Ses_sendByte, by decide +kernel, by decide⟩
theorem d_Ses_sendByte_0 : decode mm_Ses_sendByte.2.1 0 = .ok (.aload_n 0, 1) := by decide +kernel
theorem d_Ses_sendByte_1 : decode mm_Ses_sendByte.2.1 1 = .ok (.getfield 45, 3) := by decide +kernel
theorem d_Ses_sendByte_4 : decode mm_Ses_sendByte.2.1 4 = .ok (.invokevirtual 164, 3) := by decide +kernel
theorem d_Ses_sendByte_7 : decode mm_Ses_sendByte.2.1 7 = .ok (.istore_n 1, 1) := by decide +kernel
theorem d_Ses_sendByte_8 : decode mm_Ses_sendByte.2.1 8 = .ok (.aload_n 0, 1) := by decide +kernel
theorem d_Ses_sendByte_9 : decode mm_Ses_sendByte.2.1 9 = .ok (.invokevirtual 118, 3) := by decide +kernel
theorem d_Ses_sendByte_12 : decode mm_Ses_sendByte.2.1 12 = .ok (.iload_n 1, 1) := by decide +kernel
theorem d_Ses_sendByte_13 : decode mm_Ses_sendByte.2.1 13 = .ok (.ireturn, 1) := by decide +kernel
def wp_Ses_sendByte (x : Nat)  (M : MzM) (K : Int32 → MzM → Prop) : Prop := wp_Way_sendNext x  M (fun v4 M1 => wp_Ses_endIfSpent x  M1 (fun M5 => K v4 M5))
theorem tm_Ses_sendByte {G : MzG} {B : MzB} {d : Nat} {K : Int32 → MzM → Prop} (hF : mzLive false B) {x : Nat} (hx : x < 2)  {M : MzM} (hL : mzLnk false M) (h : wp_Ses_sendByte x  M K) : MzC G B (d + 4) mm_Ses_sendByte [.ref (mz_ad B (8, x))] M (0, 0) (mzK1 false B K) := by
  unfold wp_Ses_sendByte at h
  exact MzC.of rfl (Nat.le_of_ble_eq_true rfl) (show MzS G B (d + 4) mm_Ses_sendByte M (0, 0) (mzK1 false B K) 0 [(0, .ref (mz_ad B (8, x)))] [] from (mz_aload_n d_Ses_sendByte_0 rfl (mz_getR (k := 5) (a := (16, x)) cl_4 d_Ses_sendByte_1 (by decide) wf_Ses_45 rfl (hF 8 x rfl hx) rfl (hL (8, x) 5 (16, x) rfl rfl hx) (mz_callV (As := []) (st := []) (hF 16 x rfl hx) rfl (mzClOf cl_8) 0 0 d_Ses_sendByte_4 cs_Way_sendNext wl_Ses_164 wi_Way_sendNext wse_Way_sendNext (Nat.le_of_ble_eq_true rfl) (Nat.zero_le _) (Nat.zero_le _) (MzC.mono (tm_Way_sendNext (d := (d + 3)) hF hx hL h) (fun r9 B9 M1 hq3 => by obtain ⟨rfl, hL2, v4, rfl, hq3⟩ := hq3; exact ⟨_, rfl, (mz_istore_n d_Ses_sendByte_7 (by decide) (mz_aload_n d_Ses_sendByte_8 rfl (mz_callV (As := []) (st := []) (hF 8 x rfl hx) rfl (mzClOf cl_4) 0 0 d_Ses_sendByte_9 cs_Ses_endIfSpent wl_Ses_118 wi_Ses_endIfSpent wse_Ses_endIfSpent (Nat.le_of_ble_eq_true rfl) (Nat.zero_le _) (Nat.zero_le _) (MzC.mono (tm_Ses_endIfSpent (d := d) hF hx hL2 hq3) (fun r9 B9 M5 hq7 => by obtain ⟨rfl, hL6, rfl, hq7⟩ := hq7; exact ⟨none, rfl, (mz_iload_n d_Ses_sendByte_12 rfl (mz_iret .int d_Ses_sendByte_13 rfl rfl ⟨rfl, hL6, _, rfl, hq7⟩))⟩)))))⟩))))))
def mm_Rep_clear : MzT := (⟨"ParcelLine$Replies", "clear", "()V"⟩, prog_10_method_2_code, 1, (Option.none : Option Jvm.ClassFile.FieldType))
theorem cs_Rep_clear {mm : MzT} : mzCall mm mm_Rep_clear 0 := ⟨wn_Rep, wco_Rep_clear, by decide +kernel, by decide⟩
theorem d_Rep_clear_0 : decode mm_Rep_clear.2.1 0 = .ok (.aload_n 0, 1) := by decide +kernel
theorem d_Rep_clear_1 : decode mm_Rep_clear.2.1 1 = .ok (.iconst 0, 1) := by decide +kernel
theorem d_Rep_clear_2 : decode mm_Rep_clear.2.1 2 = .ok (.putfield 18, 3) := by decide +kernel
theorem d_Rep_clear_5 : decode mm_Rep_clear.2.1 5 = .ok (.aload_n 0, 1) := by decide +kernel
theorem d_Rep_clear_6 : decode mm_Rep_clear.2.1 6 = .ok (.iconst 0, 1) := by decide +kernel
theorem d_Rep_clear_7 : decode mm_Rep_clear.2.1 7 = .ok (.putfield 22, 3) := by decide +kernel
theorem d_Rep_clear_10 : decode mm_Rep_clear.2.1 10 = .ok (.return_, 1) := by decide +kernel
def wp_Rep_clear (x : Nat)  (M : MzM) (K : MzM → Prop) : Prop := (∀ M1 : MzM, M1 = mz_si M (9, x) 1 (0 : Int32) → (∀ M2 : MzM, M2 = mz_si M1 (9, x) 2 (0 : Int32) → K M2))
theorem tm_Rep_clear {G : MzG} {B : MzB} {d : Nat} {K : MzM → Prop} (hF : mzLive false B) {x : Nat} (hx : x < 2)  {M : MzM} (hL : mzLnk false M) (h : wp_Rep_clear x  M K) : MzC G B d mm_Rep_clear [.ref (mz_ad B (9, x))] M (0, 0) (mzK0 false B K) := by
  unfold wp_Rep_clear at h
  exact MzC.of rfl (Nat.le_of_ble_eq_true rfl) (show MzS G B d mm_Rep_clear M (0, 0) (mzK0 false B K) 0 [(0, .ref (mz_ad B (9, x)))] [] from (mz_aload_n d_Rep_clear_0 rfl (mz_iconst (0 : Int32) d_Rep_clear_1 (by decide) (mz_putI (k := 1) cl_5 d_Rep_clear_2 (by decide) wf_Rep_18 rfl rfl rfl rfl (hF 9 x rfl hx) rfl (let M1 : MzM := mz_si M (9, x) 1 (0 : Int32); (mz_aload_n d_Rep_clear_5 rfl (mz_iconst (0 : Int32) d_Rep_clear_6 (by decide) (mz_putI (k := 2) cl_5 d_Rep_clear_7 (by decide) wf_Rep_22 rfl rfl rfl rfl (hF 9 x rfl hx) rfl (let M2 : MzM := mz_si M1 (9, x) 2 (0 : Int32); (mz_vret d_Rep_clear_10 rfl ⟨rfl, hL, rfl, ((h M1 rfl) M2 rfl)⟩))))))))))
def mm_Ses_drop : MzT := (⟨"ParcelLine$Session", "drop", "()V"⟩, prog_11_method_5_code, 1, (Option.none : Option Jvm.ClassFile.FieldType))
theorem cs_Ses_drop {mm : MzT} : mzCall mm mm_Ses_drop 0 := ⟨wn_Ses, wco_Ses_drop, by decide +kernel, by decide⟩
theorem d_Ses_drop_0 : decode mm_Ses_drop.2.1 0 = .ok (.aload_n 0, 1) := by decide +kernel
theorem d_Ses_drop_1 : decode mm_Ses_drop.2.1 1 = .ok (.invokevirtual 148, 3) := by decide +kernel
theorem d_Ses_drop_4 : decode mm_Ses_drop.2.1 4 = .ok (.aload_n 0, 1) := by decide +kernel
theorem d_Ses_drop_5 : decode mm_Ses_drop.2.1 5 = .ok (.getfield 22, 3) := by decide +kernel
theorem d_Ses_drop_8 : decode mm_Ses_drop.2.1 8 = .ok (.invokevirtual 149, 3) := by decide +kernel
theorem d_Ses_drop_11 : decode mm_Ses_drop.2.1 11 = .ok (.return_, 1) := by decide +kernel
def wp_Ses_drop (x : Nat)  (M : MzM) (K : MzM → Prop) : Prop := wp_Ses_startOver x  M (fun M1 => wp_Rep_clear x  M1 (fun M4 => K M4))
theorem tm_Ses_drop {G : MzG} {B : MzB} {d : Nat} {K : MzM → Prop} (hF : mzLive false B) {x : Nat} (hx : x < 2)  {M : MzM} (hL : mzLnk false M) (h : wp_Ses_drop x  M K) : MzC G B (d + 3) mm_Ses_drop [.ref (mz_ad B (8, x))] M (0, 0) (mzK0 false B K) := by
  unfold wp_Ses_drop at h
  exact MzC.of rfl (Nat.le_of_ble_eq_true rfl) (show MzS G B (d + 3) mm_Ses_drop M (0, 0) (mzK0 false B K) 0 [(0, .ref (mz_ad B (8, x)))] [] from (mz_aload_n d_Ses_drop_0 rfl (mz_callV (As := []) (st := []) (hF 8 x rfl hx) rfl (mzClOf cl_4) 0 0 d_Ses_drop_1 cs_Ses_startOver wl_Ses_148 wi_Ses_startOver wse_Ses_startOver (Nat.le_of_ble_eq_true rfl) (Nat.zero_le _) (Nat.zero_le _) (MzC.mono (tm_Ses_startOver (d := d) hF hx hL h) (fun r9 B9 M1 hq3 => by obtain ⟨rfl, hL2, rfl, hq3⟩ := hq3; exact ⟨none, rfl, (mz_aload_n d_Ses_drop_4 rfl (mz_getR (k := 2) (a := (9, x)) cl_4 d_Ses_drop_5 (by decide) wf_Ses_22 rfl (hF 8 x rfl hx) rfl (hL2 (8, x) 2 (9, x) rfl rfl hx) (mz_callV (As := []) (st := []) (hF 9 x rfl hx) rfl (mzClOf cl_5) 0 0 d_Ses_drop_8 cs_Rep_clear wl_Ses_149 wi_Rep_clear wse_Rep_clear (Nat.le_of_ble_eq_true rfl) (Nat.zero_le _) (Nat.zero_le _) (MzC.mono (tm_Rep_clear (d := (d + 2)) hF hx hL2 hq3) (fun r9 B9 M4 hq6 => by obtain ⟨rfl, hL5, rfl, hq6⟩ := hq6; exact ⟨none, rfl, (mz_vret d_Ses_drop_11 rfl ⟨rfl, hL5, rfl, hq6⟩)⟩)))))⟩)))))
def mm_Cop_interrupt : MzT := (⟨"ParcelLine$Copier", "interrupt", "()V"⟩, prog_5_method_3_code, 1, (Option.none : Option Jvm.ClassFile.FieldType))
theorem cs_Cop_interrupt {mm : MzT} : mzCall mm mm_Cop_interrupt 0 := ⟨wn_Cop, wco_Cop_interrupt, by decide +kernel, by decide⟩
theorem d_Cop_interrupt_0 : decode mm_Cop_interrupt.2.1 0 = .ok (.aload_n 0, 1) := by decide +kernel
theorem d_Cop_interrupt_1 : decode mm_Cop_interrupt.2.1 1 = .ok (.iconst 0, 1) := by decide +kernel
theorem d_Cop_interrupt_2 : decode mm_Cop_interrupt.2.1 2 = .ok (.putfield 33, 3) := by decide +kernel
theorem d_Cop_interrupt_5 : decode mm_Cop_interrupt.2.1 5 = .ok (.aload_n 0, 1) := by decide +kernel
theorem d_Cop_interrupt_6 : decode mm_Cop_interrupt.2.1 6 = .ok (.getfield 30, 3) := by decide +kernel
theorem d_Cop_interrupt_9 : decode mm_Cop_interrupt.2.1 9 = .ok (.ifCond .le 16, 3) := by decide +kernel
theorem d_Cop_interrupt_12 : decode mm_Cop_interrupt.2.1 12 = .ok (.aload_n 0, 1) := by decide +kernel
theorem d_Cop_interrupt_13 : decode mm_Cop_interrupt.2.1 13 = .ok (.dup, 1) := by decide +kernel
theorem d_Cop_interrupt_14 : decode mm_Cop_interrupt.2.1 14 = .ok (.getfield 30, 3) := by decide +kernel
theorem d_Cop_interrupt_17 : decode mm_Cop_interrupt.2.1 17 = .ok (.iconst 1, 1) := by decide +kernel
theorem d_Cop_interrupt_18 : decode mm_Cop_interrupt.2.1 18 = .ok (.isub, 1) := by decide +kernel
theorem d_Cop_interrupt_19 : decode mm_Cop_interrupt.2.1 19 = .ok (.putfield 30, 3) := by decide +kernel
theorem d_Cop_interrupt_22 : decode mm_Cop_interrupt.2.1 22 = .ok (.goto 8, 3) := by decide +kernel
theorem d_Cop_interrupt_25 : decode mm_Cop_interrupt.2.1 25 = .ok (.aload_n 0, 1) := by decide +kernel
theorem d_Cop_interrupt_26 : decode mm_Cop_interrupt.2.1 26 = .ok (.iconst 1, 1) := by decide +kernel
theorem d_Cop_interrupt_27 : decode mm_Cop_interrupt.2.1 27 = .ok (.putfield 36, 3) := by decide +kernel
theorem d_Cop_interrupt_30 : decode mm_Cop_interrupt.2.1 30 = .ok (.return_, 1) := by decide +kernel
def wp_Cop_interrupt   (M : MzM) (K : MzM → Prop) : Prop := (∀ M1 : MzM, M1 = mz_si M (22, 0) 6 (0 : Int32) → (((mz_i M1 (22, 0) 5) ≤ 0 → (∀ M2 : MzM, M2 = mz_si M1 (22, 0) 7 (1 : Int32) → K M2)) ∧ (¬ (mz_i M1 (22, 0) 5) ≤ 0 → (∀ M3 : MzM, M3 = mz_si M1 (22, 0) 5 ((mz_i M1 (22, 0) 5) - (1 : Int32)) → K M3))))
theorem tm_Cop_interrupt {G : MzG} {B : MzB} {d : Nat} {K : MzM → Prop} (hF : mzLive false B)    {M : MzM} (hL : mzLnk false M) (h : wp_Cop_interrupt   M K) : MzC G B d mm_Cop_interrupt [.ref (mz_ad B (22, 0))] M (0, 0) (mzK0 false B K) := by
  unfold wp_Cop_interrupt at h
  exact MzC.of rfl (Nat.le_of_ble_eq_true rfl) (show MzS G B d mm_Cop_interrupt M (0, 0) (mzK0 false B K) 0 [(0, .ref (mz_ad B (22, 0)))] [] from (mz_aload_n d_Cop_interrupt_0 rfl (mz_iconst (0 : Int32) d_Cop_interrupt_1 (by decide) (mz_putI (k := 6) cl_9 d_Cop_interrupt_2 (by decide) wf_Cop_33 rfl rfl rfl rfl (hF 22 0 rfl (by decide)) rfl (let M1 : MzM := mz_si M (22, 0) 6 (0 : Int32); (mz_aload_n d_Cop_interrupt_5 rfl (mz_getI (k := 5) cl_9 d_Cop_interrupt_6 (by decide) wf_Cop_30 rfl (hF 22 0 rfl (by decide)) rfl (mz_if_le 25 d_Cop_interrupt_9 rfl (fun hc4 => (mz_aload_n d_Cop_interrupt_25 rfl (mz_iconst (1 : Int32) d_Cop_interrupt_26 (by decide) (mz_putI (k := 7) cl_9 d_Cop_interrupt_27 (by decide) wf_Cop_36 rfl rfl rfl rfl (hF 22 0 rfl (by decide)) rfl (let M2 : MzM := mz_si M1 (22, 0) 7 (1 : Int32); (mz_vret d_Cop_interrupt_30 rfl ⟨rfl, hL, rfl, (((h M1 rfl).1 hc4) M2 rfl)⟩)))))) (fun hc4 => (mz_aload_n d_Cop_interrupt_12 rfl (mz_dup d_Cop_interrupt_13 rfl (mz_getI (k := 5) cl_9 d_Cop_interrupt_14 (by decide) wf_Cop_30 rfl (hF 22 0 rfl (by decide)) rfl (mz_iconst (1 : Int32) d_Cop_interrupt_17 (by decide) (mz_isub d_Cop_interrupt_18 (mz_putI (k := 5) cl_9 d_Cop_interrupt_19 (by decide) wf_Cop_30 rfl rfl rfl rfl (hF 22 0 rfl (by decide)) rfl (let M3 : MzM := mz_si M1 (22, 0) 5 ((mz_i M1 (22, 0) 5) - (1 : Int32)); (mz_goto 30 d_Cop_interrupt_22 rfl (mz_vret d_Cop_interrupt_30 rfl ⟨rfl, hL, rfl, (((h M1 rfl).2 hc4) M3 rfl)⟩))))))))))))))))))
def mm_PL_cut : MzT := (⟨"ParcelLine", "cut", "(I)Z"⟩, prog_1_method_6_code, 2, (Option.some Jvm.ClassFile.FieldType.boolean))
theorem cs_PL_cut {mm : MzT} : mzCall mm mm_PL_cut 1 := ⟨wn_PL, wco_PL_cut, by decide +kernel, by decide⟩
theorem d_PL_cut_0 : decode mm_PL_cut.2.1 0 = .ok (.iload_n 1, 1) := by decide +kernel
theorem d_PL_cut_1 : decode mm_PL_cut.2.1 1 = .ok (.invokestatic 41, 3) := by decide +kernel
theorem d_PL_cut_4 : decode mm_PL_cut.2.1 4 = .ok (.ifCond .ne 5, 3) := by decide +kernel
theorem d_PL_cut_7 : decode mm_PL_cut.2.1 7 = .ok (.iconst 0, 1) := by decide +kernel
theorem d_PL_cut_8 : decode mm_PL_cut.2.1 8 = .ok (.ireturn, 1) := by decide +kernel
theorem d_PL_cut_9 : decode mm_PL_cut.2.1 9 = .ok (.aload_n 0, 1) := by decide +kernel
theorem d_PL_cut_10 : decode mm_PL_cut.2.1 10 = .ok (.getfield 18, 3) := by decide +kernel
theorem d_PL_cut_13 : decode mm_PL_cut.2.1 13 = .ok (.iload_n 1, 1) := by decide +kernel
theorem d_PL_cut_14 : decode mm_PL_cut.2.1 14 = .ok (.aaload, 1) := by decide +kernel
theorem d_PL_cut_15 : decode mm_PL_cut.2.1 15 = .ok (.invokevirtual 92, 3) := by decide +kernel
theorem d_PL_cut_18 : decode mm_PL_cut.2.1 18 = .ok (.iload_n 1, 1) := by decide +kernel
theorem d_PL_cut_19 : decode mm_PL_cut.2.1 19 = .ok (.iconst 1, 1) := by decide +kernel
theorem d_PL_cut_20 : decode mm_PL_cut.2.1 20 = .ok (.if_icmp .ne 10, 3) := by decide +kernel
theorem d_PL_cut_23 : decode mm_PL_cut.2.1 23 = .ok (.aload_n 0, 1) := by decide +kernel
theorem d_PL_cut_24 : decode mm_PL_cut.2.1 24 = .ok (.getfield 37, 3) := by decide +kernel
theorem d_PL_cut_27 : decode mm_PL_cut.2.1 27 = .ok (.invokevirtual 95, 3) := by decide +kernel
theorem d_PL_cut_30 : decode mm_PL_cut.2.1 30 = .ok (.iconst 1, 1) := by decide +kernel
theorem d_PL_cut_31 : decode mm_PL_cut.2.1 31 = .ok (.ireturn, 1) := by decide +kernel
def wp_PL_cut  (a1 : Int32) (M : MzM) (K : Int32 → MzM → Prop) : Prop := wp_PL_isSession  a1 M (fun v4 M1 => ((¬ v4 = 0 → (∃ j5 : Nat, a1.toInt = (j5 : Int) ∧ j5 < 2 ∧ wp_Ses_drop j5  M1 (fun M9 => ((¬ a1 = (1 : Int32) → K (1 : Int32) M9) ∧ (a1 = (1 : Int32) → wp_Cop_interrupt   M9 (fun M12 => K (1 : Int32) M12)))))) ∧ (v4 = 0 → K (0 : Int32) M1)))
theorem tm_PL_cut {G : MzG} {B : MzB} {d : Nat} {K : Int32 → MzM → Prop} (hF : mzLive false B)   {a1 : Int32} {M : MzM} (hL : mzLnk false M) (h : wp_PL_cut  a1 M K) : MzC G B (d + 4) mm_PL_cut [.ref (mz_ad B (0, 0)), .int a1] M (0, 0) (mzK1 false B K) := by
  unfold wp_PL_cut at h
  exact MzC.of rfl (Nat.le_of_ble_eq_true rfl) (show MzS G B (d + 4) mm_PL_cut M (0, 0) (mzK1 false B K) 0 [(0, .ref (mz_ad B (0, 0))), (1, .int a1)] [] from (mz_iload_n d_PL_cut_0 rfl (mz_callS (As := [.int a1]) (st := []) 0 0 d_PL_cut_1 cs_PL_isSession wl_PL_41 ws_PL_isSession (Nat.le_of_ble_eq_true rfl) (Nat.zero_le _) (Nat.zero_le _) (MzC.mono (tm_PL_isSession (d := (d + 3)) hF  hL h) (fun r9 B9 M1 hq3 => by obtain ⟨rfl, hL2, v4, rfl, hq3⟩ := hq3; exact ⟨_, rfl, (mz_if_ne 9 d_PL_cut_4 rfl (fun hc16 => (mz_aload_n d_PL_cut_9 rfl (mz_getR (k := 1) (a := (7, 0)) cl_0 d_PL_cut_10 (by decide) wf_PL_18 rfl (hF 0 0 rfl (by decide)) rfl (hL2 (0, 0) 1 (7, 0) rfl rfl (by decide)) (mz_iload_n d_PL_cut_13 rfl (match (hq3.1 hc16) with | ⟨j5, h6, h7, h8⟩ => mz_aald (a := (8, j5)) j5 d_PL_cut_14 (hF 7 0 rfl (by decide)) rfl h6 h7 (hL2 (7, 0) j5 (8, j5) rfl (mzLk_7 h7) (by decide)) (mz_callV (As := []) (st := []) (hF 8 j5 rfl h7) rfl (mzClOf cl_4) 0 0 d_PL_cut_15 cs_Ses_drop wl_PL_92 wi_Ses_drop wse_Ses_drop (Nat.le_of_ble_eq_true rfl) (Nat.zero_le _) (Nat.zero_le _) (MzC.mono (tm_Ses_drop (d := d) hF h7 hL2 h8) (fun r9 B9 M9 hq11 => by obtain ⟨rfl, hL10, rfl, hq11⟩ := hq11; exact ⟨none, rfl, (mz_iload_n d_PL_cut_18 rfl (mz_iconst (1 : Int32) d_PL_cut_19 (by decide) (mz_icmp_ne 30 d_PL_cut_20 rfl (fun hc15 => (mz_iconst (1 : Int32) d_PL_cut_30 (by decide) (mz_iret .boolean d_PL_cut_31 rfl rfl ⟨rfl, hL10, _, rfl, (hq11.1 hc15)⟩))) (fun hc15 => (mz_aload_n d_PL_cut_23 rfl (mz_getR (k := 3) (a := (22, 0)) cl_0 d_PL_cut_24 (by decide) wf_PL_37 rfl (hF 0 0 rfl (by decide)) rfl (hL10 (0, 0) 3 (22, 0) rfl rfl (by decide)) (mz_callV (As := []) (st := []) (hF 22 0 rfl (by decide)) rfl (mzClOf cl_9) 0 0 d_PL_cut_27 cs_Cop_interrupt wl_PL_95 wi_Cop_interrupt wse_Cop_interrupt (Nat.le_of_ble_eq_true rfl) (Nat.zero_le _) (Nat.zero_le _) (MzC.mono (tm_Cop_interrupt (d := (d + 3)) hF  hL10 (hq11.2 hc15)) (fun r9 B9 M12 hq14 => by obtain ⟨rfl, hL13, rfl, hq14⟩ := hq14; exact ⟨none, rfl, (mz_iconst (1 : Int32) d_PL_cut_30 (by decide) (mz_iret .boolean d_PL_cut_31 rfl rfl ⟨rfl, hL13, _, rfl, hq14⟩))⟩)))))))))⟩)))))))) (fun hc16 => (mz_iconst (0 : Int32) d_PL_cut_7 (by decide) (mz_iret .boolean d_PL_cut_8 rfl rfl ⟨rfl, hL2, _, rfl, (hq3.2 hc16)⟩))))⟩)))))
def mm_Store_loseUnsafeBytes : MzT := (⟨"ParcelLine$Store", "loseUnsafeBytes", "()V"⟩, prog_12_method_13_code, 3, (Option.none : Option Jvm.ClassFile.FieldType))
theorem cs_Store_loseUnsafeBytes {mm : MzT} : mzCall mm mm_Store_loseUnsafeBytes 0 := ⟨wn_Store, wco_Store_loseUnsafeBytes, by decide +kernel, by decide⟩
theorem d_Store_loseUnsafeBytes_0 : decode mm_Store_loseUnsafeBytes.2.1 0 = .ok (.iconst 0, 1) := by decide +kernel
theorem d_Store_loseUnsafeBytes_1 : decode mm_Store_loseUnsafeBytes.2.1 1 = .ok (.istore_n 1, 1) := by decide +kernel
theorem d_Store_loseUnsafeBytes_2 : decode mm_Store_loseUnsafeBytes.2.1 2 = .ok (.iload_n 1, 1) := by decide +kernel
theorem d_Store_loseUnsafeBytes_3 : decode mm_Store_loseUnsafeBytes.2.1 3 = .ok (.bipush 16, 2) := by decide +kernel
theorem d_Store_loseUnsafeBytes_5 : decode mm_Store_loseUnsafeBytes.2.1 5 = .ok (.if_icmp .ge 49, 3) := by decide +kernel
theorem d_Store_loseUnsafeBytes_8 : decode mm_Store_loseUnsafeBytes.2.1 8 = .ok (.aload_n 0, 1) := by decide +kernel
theorem d_Store_loseUnsafeBytes_9 : decode mm_Store_loseUnsafeBytes.2.1 9 = .ok (.getfield 11, 3) := by decide +kernel
theorem d_Store_loseUnsafeBytes_12 : decode mm_Store_loseUnsafeBytes.2.1 12 = .ok (.iload_n 1, 1) := by decide +kernel
theorem d_Store_loseUnsafeBytes_13 : decode mm_Store_loseUnsafeBytes.2.1 13 = .ok (.aaload, 1) := by decide +kernel
theorem d_Store_loseUnsafeBytes_14 : decode mm_Store_loseUnsafeBytes.2.1 14 = .ok (.astore_n 2, 1) := by decide +kernel
theorem d_Store_loseUnsafeBytes_15 : decode mm_Store_loseUnsafeBytes.2.1 15 = .ok (.aload_n 2, 1) := by decide +kernel
theorem d_Store_loseUnsafeBytes_16 : decode mm_Store_loseUnsafeBytes.2.1 16 = .ok (.getfield 65, 3) := by decide +kernel
theorem d_Store_loseUnsafeBytes_19 : decode mm_Store_loseUnsafeBytes.2.1 19 = .ok (.ifCond .eq 29, 3) := by decide +kernel
theorem d_Store_loseUnsafeBytes_22 : decode mm_Store_loseUnsafeBytes.2.1 22 = .ok (.aload_n 2, 1) := by decide +kernel
theorem d_Store_loseUnsafeBytes_23 : decode mm_Store_loseUnsafeBytes.2.1 23 = .ok (.getfield 58, 3) := by decide +kernel
theorem d_Store_loseUnsafeBytes_26 : decode mm_Store_loseUnsafeBytes.2.1 26 = .ok (.dup, 1) := by decide +kernel
theorem d_Store_loseUnsafeBytes_27 : decode mm_Store_loseUnsafeBytes.2.1 27 = .ok (.getfield 62, 3) := by decide +kernel
theorem d_Store_loseUnsafeBytes_30 : decode mm_Store_loseUnsafeBytes.2.1 30 = .ok (.aload_n 2, 1) := by decide +kernel
theorem d_Store_loseUnsafeBytes_31 : decode mm_Store_loseUnsafeBytes.2.1 31 = .ok (.getfield 58, 3) := by decide +kernel
theorem d_Store_loseUnsafeBytes_34 : decode mm_Store_loseUnsafeBytes.2.1 34 = .ok (.getfield 62, 3) := by decide +kernel
theorem d_Store_loseUnsafeBytes_37 : decode mm_Store_loseUnsafeBytes.2.1 37 = .ok (.iconst 4, 1) := by decide +kernel
theorem d_Store_loseUnsafeBytes_38 : decode mm_Store_loseUnsafeBytes.2.1 38 = .ok (.irem, 1) := by decide +kernel
theorem d_Store_loseUnsafeBytes_39 : decode mm_Store_loseUnsafeBytes.2.1 39 = .ok (.isub, 1) := by decide +kernel
theorem d_Store_loseUnsafeBytes_40 : decode mm_Store_loseUnsafeBytes.2.1 40 = .ok (.putfield 62, 3) := by decide +kernel
theorem d_Store_loseUnsafeBytes_43 : decode mm_Store_loseUnsafeBytes.2.1 43 = .ok (.aload_n 2, 1) := by decide +kernel
theorem d_Store_loseUnsafeBytes_44 : decode mm_Store_loseUnsafeBytes.2.1 44 = .ok (.iconst 0, 1) := by decide +kernel
theorem d_Store_loseUnsafeBytes_45 : decode mm_Store_loseUnsafeBytes.2.1 45 = .ok (.putfield 65, 3) := by decide +kernel
theorem d_Store_loseUnsafeBytes_48 : decode mm_Store_loseUnsafeBytes.2.1 48 = .ok (.iinc 1 1, 3) := by decide +kernel
theorem d_Store_loseUnsafeBytes_51 : decode mm_Store_loseUnsafeBytes.2.1 51 = .ok (.goto (-49), 3) := by decide +kernel
theorem d_Store_loseUnsafeBytes_54 : decode mm_Store_loseUnsafeBytes.2.1 54 = .ok (.return_, 1) := by decide +kernel
def wp_Store_loseUnsafeBytes_48  (H2 : Int32 → MzM → Prop) (K : MzM → Prop) (y1 : Int32) (M : MzM) : Prop := H2 (y1 + (1 : Int32)) M
def wp_Store_loseUnsafeBytes_2   (K : MzM → Prop) : Nat → Int32 → MzM → Prop
  | 0, _, _ => False
  | r0 + 1, y1, M => (((16 : Int32) ≤ y1 → K M) ∧ (¬ (16 : Int32) ≤ y1 → (∃ j3 : Nat, y1.toInt = (j3 : Int) ∧ j3 < 16 ∧ (((mz_i M (3, j3) 6) = 0 → wp_Store_loseUnsafeBytes_48  (wp_Store_loseUnsafeBytes_2   K r0) K y1 M) ∧ (¬ (mz_i M (3, j3) 6) = 0 → (∀ M7 : MzM, M7 = mz_si M (4, j3) 1 ((mz_i M (4, j3) 1) - ((mz_i M (4, j3) 1) - (mz_i M (4, j3) 1) / (4 : Int32) * (4 : Int32))) → (∀ M8 : MzM, M8 = mz_si M7 (3, j3) 6 (0 : Int32) → wp_Store_loseUnsafeBytes_48  (wp_Store_loseUnsafeBytes_2   K r0) K y1 M8)))))))
def wp_Store_loseUnsafeBytes   (M : MzM) (K : MzM → Prop) : Prop := (∃ r1 : Nat, wp_Store_loseUnsafeBytes_2   K r1 (0 : Int32) M)
theorem tm_Store_loseUnsafeBytes_48 {G : MzG} {B : MzB} {d : Nat} {K : MzM → Prop} (hF : mzLive false B)   {H2 : Int32 → MzM → Prop} (hH2 : ∀ (y1 : Int32) (M : MzM), mzLnk false M → H2 y1 M → MzS G B d mm_Store_loseUnsafeBytes M (0, 0) (mzK0 false B K) 2 [(0, .ref (mz_ad B (1, 0))), (1, .int y1)] []) (y1 : Int32) (M : MzM) (hL : mzLnk false M) (h : wp_Store_loseUnsafeBytes_48  H2 K y1 M) : MzS G B d mm_Store_loseUnsafeBytes M (0, 0) (mzK0 false B K) 48 [(0, .ref (mz_ad B (1, 0))), (1, .int y1)] [] := by
  unfold wp_Store_loseUnsafeBytes_48 at h
  exact (mz_iinc (y1 + (1 : Int32)) d_Store_loseUnsafeBytes_48 rfl (by decide) rfl (mz_goto 2 d_Store_loseUnsafeBytes_51 rfl (MzS.loc [(0, .ref (mz_ad B (1, 0))), (1, .int (y1 + (1 : Int32)))] ⟨rfl, rfl, trivial⟩ (hH2 (y1 + (1 : Int32)) M hL h))))
theorem tm_Store_loseUnsafeBytes_2 {G : MzG} {B : MzB} {d : Nat} {K : MzM → Prop} (hF : mzLive false B)     : ∀ (r0 : Nat) (y1 : Int32) (M : MzM), mzLnk false M → wp_Store_loseUnsafeBytes_2   K r0 y1 M → MzS G B d mm_Store_loseUnsafeBytes M (0, 0) (mzK0 false B K) 2 [(0, .ref (mz_ad B (1, 0))), (1, .int y1)] [] := by
  intro r0
  induction r0 with
  | zero => intro y1 M hL h; exact False.elim h
  | succ r0 hH2 =>
    intro y1 M hL h
    unfold wp_Store_loseUnsafeBytes_2 at h
    exact (mz_iload_n d_Store_loseUnsafeBytes_2 rfl (mz_bipush (16 : Int32) d_Store_loseUnsafeBytes_3 (by decide) (mz_icmp_ge 54 d_Store_loseUnsafeBytes_5 rfl (fun hc10 => (mz_vret d_Store_loseUnsafeBytes_54 rfl ⟨rfl, hL, rfl, (h.1 hc10)⟩)) (fun hc10 => (mz_aload_n d_Store_loseUnsafeBytes_8 rfl (mz_getR (k := 0) (a := (2, 0)) cl_1 d_Store_loseUnsafeBytes_9 (by decide) wf_Store_11 rfl (hF 1 0 rfl (by decide)) rfl (hL (1, 0) 0 (2, 0) rfl rfl (by decide)) (mz_iload_n d_Store_loseUnsafeBytes_12 rfl (match (h.2 hc10) with | ⟨j3, h4, h5, h6⟩ => mz_aald (a := (3, j3)) j3 d_Store_loseUnsafeBytes_13 (hF 2 0 rfl (by decide)) rfl h4 h5 (hL (2, 0) j3 (3, j3) rfl (mzLk_2 h5) (by decide)) (mz_astore_n d_Store_loseUnsafeBytes_14 (by decide) (mz_aload_n d_Store_loseUnsafeBytes_15 rfl (mz_getIN (k := 6) cl_2 d_Store_loseUnsafeBytes_16 (by decide) wf_Store_65 rfl (hF 3 j3 rfl h5) rfl (mz_if_eq 48 d_Store_loseUnsafeBytes_19 rfl (fun hc9 => (MzS.loc [(0, .ref (mz_ad B (1, 0))), (1, .int y1)] ⟨rfl, rfl, trivial⟩ (tm_Store_loseUnsafeBytes_48 hF  hH2 y1 M hL (h6.1 hc9)))) (fun hc9 => (mz_aload_n d_Store_loseUnsafeBytes_22 rfl (mz_getRN (k := 0) (a := (4, j3)) cl_2 d_Store_loseUnsafeBytes_23 (by decide) wf_Store_58 rfl (hF 3 j3 rfl h5) rfl (hL (3, j3) 0 (4, j3) rfl rfl h5) (mz_dup d_Store_loseUnsafeBytes_26 rfl (mz_getIN (k := 1) cl_3 d_Store_loseUnsafeBytes_27 (by decide) wf_Store_62 rfl (hF 4 j3 rfl h5) rfl (mz_aload_n d_Store_loseUnsafeBytes_30 rfl (mz_getRN (k := 0) (a := (4, j3)) cl_2 d_Store_loseUnsafeBytes_31 (by decide) wf_Store_58 rfl (hF 3 j3 rfl h5) rfl (hL (3, j3) 0 (4, j3) rfl rfl h5) (mz_getIN (k := 1) cl_3 d_Store_loseUnsafeBytes_34 (by decide) wf_Store_62 rfl (hF 4 j3 rfl h5) rfl (mz_iconst (4 : Int32) d_Store_loseUnsafeBytes_37 (by decide) (mz_irem d_Store_loseUnsafeBytes_38 (by decide) (mz_isub d_Store_loseUnsafeBytes_39 (mz_putIN (k := 1) cl_3 d_Store_loseUnsafeBytes_40 (by decide) wf_Store_62 rfl rfl rfl rfl (hF 4 j3 rfl h5) rfl (let M7 : MzM := mz_si M (4, j3) 1 ((mz_i M (4, j3) 1) - ((mz_i M (4, j3) 1) - (mz_i M (4, j3) 1) / (4 : Int32) * (4 : Int32))); (mz_aload_n d_Store_loseUnsafeBytes_43 rfl (mz_iconst (0 : Int32) d_Store_loseUnsafeBytes_44 (by decide) (mz_putIN (k := 6) cl_2 d_Store_loseUnsafeBytes_45 (by decide) wf_Store_65 rfl rfl rfl rfl (hF 3 j3 rfl h5) rfl (let M8 : MzM := mz_si M7 (3, j3) 6 (0 : Int32); (MzS.loc [(0, .ref (mz_ad B (1, 0))), (1, .int y1)] ⟨rfl, rfl, trivial⟩ (tm_Store_loseUnsafeBytes_48 hF  hH2 y1 M8 hL (((h6.2 hc9) M7 rfl) M8 rfl))))))))))))))))))))))))))))))))
theorem tm_Store_loseUnsafeBytes {G : MzG} {B : MzB} {d : Nat} {K : MzM → Prop} (hF : mzLive false B)    {M : MzM} (hL : mzLnk false M) (h : wp_Store_loseUnsafeBytes   M K) : MzC G B d mm_Store_loseUnsafeBytes [.ref (mz_ad B (1, 0))] M (0, 0) (mzK0 false B K) := by
  unfold wp_Store_loseUnsafeBytes at h
  exact MzC.of rfl (Nat.le_of_ble_eq_true rfl) (show MzS G B d mm_Store_loseUnsafeBytes M (0, 0) (mzK0 false B K) 0 [(0, .ref (mz_ad B (1, 0)))] [] from (mz_iconst (0 : Int32) d_Store_loseUnsafeBytes_0 (by decide) (mz_istore_n d_Store_loseUnsafeBytes_1 (by decide) (MzS.loc [(0, .ref (mz_ad B (1, 0))), (1, .int (0 : Int32))] ⟨rfl, rfl, trivial⟩ (match h with | ⟨r1, h2⟩ => tm_Store_loseUnsafeBytes_2 hF   r1 (0 : Int32) M hL h2)))))
def mm_PL_crash : MzT := (⟨"ParcelLine", "crash", "()V"⟩, prog_1_method_7_code, 2, (Option.none : Option Jvm.ClassFile.FieldType))
theorem cs_PL_crash {mm : MzT} : mzCall mm mm_PL_crash 0 := ⟨wn_PL, wco_PL_crash, by decide +kernel, by decide⟩
theorem d_PL_crash_0 : decode mm_PL_crash.2.1 0 = .ok (.iconst 0, 1) := by decide +kernel
theorem d_PL_crash_1 : decode mm_PL_crash.2.1 1 = .ok (.istore_n 1, 1) := by decide +kernel
theorem d_PL_crash_2 : decode mm_PL_crash.2.1 2 = .ok (.iload_n 1, 1) := by decide +kernel
theorem d_PL_crash_3 : decode mm_PL_crash.2.1 3 = .ok (.iconst 2, 1) := by decide +kernel
theorem d_PL_crash_4 : decode mm_PL_crash.2.1 4 = .ok (.if_icmp .ge 18, 3) := by decide +kernel
theorem d_PL_crash_7 : decode mm_PL_crash.2.1 7 = .ok (.aload_n 0, 1) := by decide +kernel
theorem d_PL_crash_8 : decode mm_PL_crash.2.1 8 = .ok (.getfield 18, 3) := by decide +kernel
theorem d_PL_crash_11 : decode mm_PL_crash.2.1 11 = .ok (.iload_n 1, 1) := by decide +kernel
theorem d_PL_crash_12 : decode mm_PL_crash.2.1 12 = .ok (.aaload, 1) := by decide +kernel
theorem d_PL_crash_13 : decode mm_PL_crash.2.1 13 = .ok (.invokevirtual 92, 3) := by decide +kernel
theorem d_PL_crash_16 : decode mm_PL_crash.2.1 16 = .ok (.iinc 1 1, 3) := by decide +kernel
theorem d_PL_crash_19 : decode mm_PL_crash.2.1 19 = .ok (.goto (-17), 3) := by decide +kernel
theorem d_PL_crash_22 : decode mm_PL_crash.2.1 22 = .ok (.aload_n 0, 1) := by decide +kernel
theorem d_PL_crash_23 : decode mm_PL_crash.2.1 23 = .ok (.getfield 12, 3) := by decide +kernel
theorem d_PL_crash_26 : decode mm_PL_crash.2.1 26 = .ok (.invokevirtual 98, 3) := by decide +kernel
theorem d_PL_crash_29 : decode mm_PL_crash.2.1 29 = .ok (.aload_n 0, 1) := by decide +kernel
theorem d_PL_crash_30 : decode mm_PL_crash.2.1 30 = .ok (.getfield 37, 3) := by decide +kernel
theorem d_PL_crash_33 : decode mm_PL_crash.2.1 33 = .ok (.invokevirtual 95, 3) := by decide +kernel
theorem d_PL_crash_36 : decode mm_PL_crash.2.1 36 = .ok (.return_, 1) := by decide +kernel
def wp_PL_crash_2   (K : MzM → Prop) : Nat → Int32 → MzM → Prop
  | 0, _, _ => False
  | r0 + 1, y1, M => (((2 : Int32) ≤ y1 → wp_Store_loseUnsafeBytes   M (fun M3 => wp_Cop_interrupt   M3 (fun M6 => K M6))) ∧ (¬ (2 : Int32) ≤ y1 → (∃ j9 : Nat, y1.toInt = (j9 : Int) ∧ j9 < 2 ∧ wp_Ses_drop j9  M (fun M13 => (wp_PL_crash_2   K r0) (y1 + (1 : Int32)) M13))))
def wp_PL_crash   (M : MzM) (K : MzM → Prop) : Prop := (∃ r1 : Nat, wp_PL_crash_2   K r1 (0 : Int32) M)
theorem tm_PL_crash_2 {G : MzG} {B : MzB} {d : Nat} {K : MzM → Prop} (hF : mzLive false B)     : ∀ (r0 : Nat) (y1 : Int32) (M : MzM), mzLnk false M → wp_PL_crash_2   K r0 y1 M → MzS G B (d + 4) mm_PL_crash M (0, 0) (mzK0 false B K) 2 [(0, .ref (mz_ad B (0, 0))), (1, .int y1)] [] := by
  intro r0
  induction r0 with
  | zero => intro y1 M hL h; exact False.elim h
  | succ r0 hH2 =>
    intro y1 M hL h
    unfold wp_PL_crash_2 at h
    exact (mz_iload_n d_PL_crash_2 rfl (mz_iconst (2 : Int32) d_PL_crash_3 (by decide) (mz_icmp_ge 22 d_PL_crash_4 rfl (fun hc16 => (mz_aload_n d_PL_crash_22 rfl (mz_getR (k := 0) (a := (1, 0)) cl_0 d_PL_crash_23 (by decide) wf_PL_12 rfl (hF 0 0 rfl (by decide)) rfl (hL (0, 0) 0 (1, 0) rfl rfl (by decide)) (mz_callV (As := []) (st := []) (hF 1 0 rfl (by decide)) rfl (mzClOf cl_1) 0 0 d_PL_crash_26 cs_Store_loseUnsafeBytes wl_PL_98 wi_Store_loseUnsafeBytes wse_Store_loseUnsafeBytes (Nat.le_of_ble_eq_true rfl) (Nat.zero_le _) (Nat.zero_le _) (MzC.mono (tm_Store_loseUnsafeBytes (d := (d + 3)) hF  hL (h.1 hc16)) (fun r9 B9 M3 hq5 => by obtain ⟨rfl, hL4, rfl, hq5⟩ := hq5; exact ⟨none, rfl, (mz_aload_n d_PL_crash_29 rfl (mz_getR (k := 3) (a := (22, 0)) cl_0 d_PL_crash_30 (by decide) wf_PL_37 rfl (hF 0 0 rfl (by decide)) rfl (hL4 (0, 0) 3 (22, 0) rfl rfl (by decide)) (mz_callV (As := []) (st := []) (hF 22 0 rfl (by decide)) rfl (mzClOf cl_9) 0 0 d_PL_crash_33 cs_Cop_interrupt wl_PL_95 wi_Cop_interrupt wse_Cop_interrupt (Nat.le_of_ble_eq_true rfl) (Nat.zero_le _) (Nat.zero_le _) (MzC.mono (tm_Cop_interrupt (d := (d + 3)) hF  hL4 hq5) (fun r9 B9 M6 hq8 => by obtain ⟨rfl, hL7, rfl, hq8⟩ := hq8; exact ⟨none, rfl, (mz_vret d_PL_crash_36 rfl ⟨rfl, hL7, rfl, hq8⟩)⟩)))))⟩)))))) (fun hc16 => (mz_aload_n d_PL_crash_7 rfl (mz_getR (k := 1) (a := (7, 0)) cl_0 d_PL_crash_8 (by decide) wf_PL_18 rfl (hF 0 0 rfl (by decide)) rfl (hL (0, 0) 1 (7, 0) rfl rfl (by decide)) (mz_iload_n d_PL_crash_11 rfl (match (h.2 hc16) with | ⟨j9, h10, h11, h12⟩ => mz_aald (a := (8, j9)) j9 d_PL_crash_12 (hF 7 0 rfl (by decide)) rfl h10 h11 (hL (7, 0) j9 (8, j9) rfl (mzLk_7 h11) (by decide)) (mz_callV (As := []) (st := []) (hF 8 j9 rfl h11) rfl (mzClOf cl_4) 0 0 d_PL_crash_13 cs_Ses_drop wl_PL_92 wi_Ses_drop wse_Ses_drop (Nat.le_of_ble_eq_true rfl) (Nat.zero_le _) (Nat.zero_le _) (MzC.mono (tm_Ses_drop (d := d) hF h11 hL h12) (fun r9 B9 M13 hq15 => by obtain ⟨rfl, hL14, rfl, hq15⟩ := hq15; exact ⟨none, rfl, (mz_iinc (y1 + (1 : Int32)) d_PL_crash_16 rfl (by decide) rfl (mz_goto 2 d_PL_crash_19 rfl (MzS.loc [(0, .ref (mz_ad B (0, 0))), (1, .int (y1 + (1 : Int32)))] ⟨rfl, rfl, trivial⟩ (hH2 (y1 + (1 : Int32)) M13 hL14 hq15))))⟩)))))))))))
theorem tm_PL_crash {G : MzG} {B : MzB} {d : Nat} {K : MzM → Prop} (hF : mzLive false B)    {M : MzM} (hL : mzLnk false M) (h : wp_PL_crash   M K) : MzC G B (d + 4) mm_PL_crash [.ref (mz_ad B (0, 0))] M (0, 0) (mzK0 false B K) := by
  unfold wp_PL_crash at h
  exact MzC.of rfl (Nat.le_of_ble_eq_true rfl) (show MzS G B (d + 4) mm_PL_crash M (0, 0) (mzK0 false B K) 0 [(0, .ref (mz_ad B (0, 0)))] [] from (mz_iconst (0 : Int32) d_PL_crash_0 (by decide) (mz_istore_n d_PL_crash_1 (by decide) (MzS.loc [(0, .ref (mz_ad B (0, 0))), (1, .int (0 : Int32))] ⟨rfl, rfl, trivial⟩ (match h with | ⟨r1, h2⟩ => tm_PL_crash_2 hF   r1 (0 : Int32) M hL h2)))))
def mm_PL_waiting : MzT := (⟨"ParcelLine", "waiting", "(I)I"⟩, prog_1_method_8_code, 2, (Option.some Jvm.ClassFile.FieldType.int))
theorem cs_PL_waiting {mm : MzT} : mzCall mm mm_PL_waiting 1 := ⟨wn_PL, wco_PL_waiting, by decide +kernel, by decide⟩
theorem d_PL_waiting_0 : decode mm_PL_waiting.2.1 0 = .ok (.iload_n 1, 1) := by decide +kernel
theorem d_PL_waiting_1 : decode mm_PL_waiting.2.1 1 = .ok (.invokestatic 41, 3) := by decide +kernel
theorem d_PL_waiting_4 : decode mm_PL_waiting.2.1 4 = .ok (.ifCond .eq 18, 3) := by decide +kernel
theorem d_PL_waiting_7 : decode mm_PL_waiting.2.1 7 = .ok (.aload_n 0, 1) := by decide +kernel
theorem d_PL_waiting_8 : decode mm_PL_waiting.2.1 8 = .ok (.getfield 18, 3) := by decide +kernel
theorem d_PL_waiting_11 : decode mm_PL_waiting.2.1 11 = .ok (.iload_n 1, 1) := by decide +kernel
theorem d_PL_waiting_12 : decode mm_PL_waiting.2.1 12 = .ok (.aaload, 1) := by decide +kernel
theorem d_PL_waiting_13 : decode mm_PL_waiting.2.1 13 = .ok (.getfield 101, 3) := by decide +kernel
theorem d_PL_waiting_16 : decode mm_PL_waiting.2.1 16 = .ok (.getfield 105, 3) := by decide +kernel
theorem d_PL_waiting_19 : decode mm_PL_waiting.2.1 19 = .ok (.goto 4, 3) := by decide +kernel
theorem d_PL_waiting_22 : decode mm_PL_waiting.2.1 22 = .ok (.iconst (-1), 1) := by decide +kernel
theorem d_PL_waiting_23 : decode mm_PL_waiting.2.1 23 = .ok (.ireturn, 1) := by decide +kernel
def wp_PL_waiting  (a1 : Int32) (M : MzM) (K : Int32 → MzM → Prop) : Prop := wp_PL_isSession  a1 M (fun v4 M1 => ((v4 = 0 → K (-1 : Int32) M1) ∧ (¬ v4 = 0 → (∃ j5 : Nat, a1.toInt = (j5 : Int) ∧ j5 < 2 ∧ K (mz_i M1 (9, j5) 2) M1))))
theorem tm_PL_waiting {G : MzG} {B : MzB} {d : Nat} {K : Int32 → MzM → Prop} (hF : mzLive false B)   {a1 : Int32} {M : MzM} (hL : mzLnk false M) (h : wp_PL_waiting  a1 M K) : MzC G B (d + 1) mm_PL_waiting [.ref (mz_ad B (0, 0)), .int a1] M (0, 0) (mzK1 false B K) := by
  unfold wp_PL_waiting at h
  exact MzC.of rfl (Nat.le_of_ble_eq_true rfl) (show MzS G B (d + 1) mm_PL_waiting M (0, 0) (mzK1 false B K) 0 [(0, .ref (mz_ad B (0, 0))), (1, .int a1)] [] from (mz_iload_n d_PL_waiting_0 rfl (mz_callS (As := [.int a1]) (st := []) 0 0 d_PL_waiting_1 cs_PL_isSession wl_PL_41 ws_PL_isSession (Nat.le_of_ble_eq_true rfl) (Nat.zero_le _) (Nat.zero_le _) (MzC.mono (tm_PL_isSession (d := d) hF  hL h) (fun r9 B9 M1 hq3 => by obtain ⟨rfl, hL2, v4, rfl, hq3⟩ := hq3; exact ⟨_, rfl, (mz_if_eq 22 d_PL_waiting_4 rfl (fun hc9 => (mz_iconst (-1 : Int32) d_PL_waiting_22 (by decide) (mz_iret .int d_PL_waiting_23 rfl rfl ⟨rfl, hL2, _, rfl, (hq3.1 hc9)⟩))) (fun hc9 => (mz_aload_n d_PL_waiting_7 rfl (mz_getR (k := 1) (a := (7, 0)) cl_0 d_PL_waiting_8 (by decide) wf_PL_18 rfl (hF 0 0 rfl (by decide)) rfl (hL2 (0, 0) 1 (7, 0) rfl rfl (by decide)) (mz_iload_n d_PL_waiting_11 rfl (match (hq3.2 hc9) with | ⟨j5, h6, h7, h8⟩ => mz_aald (a := (8, j5)) j5 d_PL_waiting_12 (hF 7 0 rfl (by decide)) rfl h6 h7 (hL2 (7, 0) j5 (8, j5) rfl (mzLk_7 h7) (by decide)) (mz_getRN (k := 2) (a := (9, j5)) cl_4 d_PL_waiting_13 (by decide) wf_PL_101 rfl (hF 8 j5 rfl h7) rfl (hL2 (8, j5) 2 (9, j5) rfl rfl h7) (mz_getIN (k := 2) cl_5 d_PL_waiting_16 (by decide) wf_PL_105 rfl (hF 9 j5 rfl h7) rfl (mz_goto 23 d_PL_waiting_19 rfl (mz_iret .int d_PL_waiting_23 rfl rfl ⟨rfl, hL2, _, rfl, h8⟩))))))))))⟩)))))
def mm_Rep_takeFirst : MzT := (⟨"ParcelLine$Replies", "takeFirst", "()I"⟩, prog_10_method_3_code, 2, (Option.some Jvm.ClassFile.FieldType.int))
theorem cs_Rep_takeFirst {mm : MzT} : mzCall mm mm_Rep_takeFirst 0 := ⟨wn_Rep, wco_Rep_takeFirst, by decide +kernel, by decide⟩
theorem d_Rep_takeFirst_0 : decode mm_Rep_takeFirst.2.1 0 = .ok (.aload_n 0, 1) := by decide +kernel
theorem d_Rep_takeFirst_1 : decode mm_Rep_takeFirst.2.1 1 = .ok (.getfield 22, 3) := by decide +kernel
theorem d_Rep_takeFirst_4 : decode mm_Rep_takeFirst.2.1 4 = .ok (.ifCond .ne 5, 3) := by decide +kernel
theorem d_Rep_takeFirst_7 : decode mm_Rep_takeFirst.2.1 7 = .ok (.iconst (-1), 1) := by decide +kernel
theorem d_Rep_takeFirst_8 : decode mm_Rep_takeFirst.2.1 8 = .ok (.ireturn, 1) := by decide +kernel
theorem d_Rep_takeFirst_9 : decode mm_Rep_takeFirst.2.1 9 = .ok (.aload_n 0, 1) := by decide +kernel
theorem d_Rep_takeFirst_10 : decode mm_Rep_takeFirst.2.1 10 = .ok (.getfield 9, 3) := by decide +kernel
theorem d_Rep_takeFirst_13 : decode mm_Rep_takeFirst.2.1 13 = .ok (.aload_n 0, 1) := by decide +kernel
theorem d_Rep_takeFirst_14 : decode mm_Rep_takeFirst.2.1 14 = .ok (.getfield 18, 3) := by decide +kernel
theorem d_Rep_takeFirst_17 : decode mm_Rep_takeFirst.2.1 17 = .ok (.iaload, 1) := by decide +kernel
theorem d_Rep_takeFirst_18 : decode mm_Rep_takeFirst.2.1 18 = .ok (.istore_n 1, 1) := by decide +kernel
theorem d_Rep_takeFirst_19 : decode mm_Rep_takeFirst.2.1 19 = .ok (.aload_n 0, 1) := by decide +kernel
theorem d_Rep_takeFirst_20 : decode mm_Rep_takeFirst.2.1 20 = .ok (.aload_n 0, 1) := by decide +kernel
theorem d_Rep_takeFirst_21 : decode mm_Rep_takeFirst.2.1 21 = .ok (.getfield 18, 3) := by decide +kernel
theorem d_Rep_takeFirst_24 : decode mm_Rep_takeFirst.2.1 24 = .ok (.iconst 1, 1) := by decide +kernel
theorem d_Rep_takeFirst_25 : decode mm_Rep_takeFirst.2.1 25 = .ok (.iadd, 1) := by decide +kernel
theorem d_Rep_takeFirst_26 : decode mm_Rep_takeFirst.2.1 26 = .ok (.sipush 200, 3) := by decide +kernel
theorem d_Rep_takeFirst_29 : decode mm_Rep_takeFirst.2.1 29 = .ok (.irem, 1) := by decide +kernel
theorem d_Rep_takeFirst_30 : decode mm_Rep_takeFirst.2.1 30 = .ok (.putfield 18, 3) := by decide +kernel
theorem d_Rep_takeFirst_33 : decode mm_Rep_takeFirst.2.1 33 = .ok (.aload_n 0, 1) := by decide +kernel
theorem d_Rep_takeFirst_34 : decode mm_Rep_takeFirst.2.1 34 = .ok (.dup, 1) := by decide +kernel
theorem d_Rep_takeFirst_35 : decode mm_Rep_takeFirst.2.1 35 = .ok (.getfield 22, 3) := by decide +kernel
theorem d_Rep_takeFirst_38 : decode mm_Rep_takeFirst.2.1 38 = .ok (.iconst 1, 1) := by decide +kernel
theorem d_Rep_takeFirst_39 : decode mm_Rep_takeFirst.2.1 39 = .ok (.isub, 1) := by decide +kernel
theorem d_Rep_takeFirst_40 : decode mm_Rep_takeFirst.2.1 40 = .ok (.putfield 22, 3) := by decide +kernel
theorem d_Rep_takeFirst_43 : decode mm_Rep_takeFirst.2.1 43 = .ok (.iload_n 1, 1) := by decide +kernel
theorem d_Rep_takeFirst_44 : decode mm_Rep_takeFirst.2.1 44 = .ok (.ireturn, 1) := by decide +kernel
def wp_Rep_takeFirst (x : Nat)  (M : MzM) (K : Int32 → MzM → Prop) : Prop := ((¬ (mz_i M (9, x) 2) = 0 → (∃ j1 : Nat, (mz_i M (9, x) 1).toInt = (j1 : Int) ∧ j1 < 200 ∧ (∀ M5 : MzM, M5 = mz_si M (9, x) 1 (((mz_i M (9, x) 1) + (1 : Int32)) - ((mz_i M (9, x) 1) + (1 : Int32)) / (200 : Int32) * (200 : Int32)) → (∀ M6 : MzM, M6 = mz_si M5 (9, x) 2 ((mz_i M5 (9, x) 2) - (1 : Int32)) → K (mz_i M (10, x) j1) M6)))) ∧ ((mz_i M (9, x) 2) = 0 → K (-1 : Int32) M))
theorem tm_Rep_takeFirst {G : MzG} {B : MzB} {d : Nat} {K : Int32 → MzM → Prop} (hF : mzLive false B) {x : Nat} (hx : x < 2)  {M : MzM} (hL : mzLnk false M) (h : wp_Rep_takeFirst x  M K) : MzC G B d mm_Rep_takeFirst [.ref (mz_ad B (9, x))] M (0, 0) (mzK1 false B K) := by
  unfold wp_Rep_takeFirst at h
  exact MzC.of rfl (Nat.le_of_ble_eq_true rfl) (show MzS G B d mm_Rep_takeFirst M (0, 0) (mzK1 false B K) 0 [(0, .ref (mz_ad B (9, x)))] [] from (mz_aload_n d_Rep_takeFirst_0 rfl (mz_getI (k := 2) cl_5 d_Rep_takeFirst_1 (by decide) wf_Rep_22 rfl (hF 9 x rfl hx) rfl (mz_if_ne 9 d_Rep_takeFirst_4 rfl (fun hc7 => (mz_aload_n d_Rep_takeFirst_9 rfl (mz_getR (k := 0) (a := (10, x)) cl_5 d_Rep_takeFirst_10 (by decide) wf_Rep_9 rfl (hF 9 x rfl hx) rfl (hL (9, x) 0 (10, x) rfl rfl hx) (mz_aload_n d_Rep_takeFirst_13 rfl (mz_getI (k := 1) cl_5 d_Rep_takeFirst_14 (by decide) wf_Rep_18 rfl (hF 9 x rfl hx) rfl (match (h.1 hc7) with | ⟨j1, h2, h3, h4⟩ => mz_iald j1 d_Rep_takeFirst_17 (hF 10 x rfl hx) rfl h2 h3 (mz_istore_n d_Rep_takeFirst_18 (by decide) (mz_aload_n d_Rep_takeFirst_19 rfl (mz_aload_n d_Rep_takeFirst_20 rfl (mz_getI (k := 1) cl_5 d_Rep_takeFirst_21 (by decide) wf_Rep_18 rfl (hF 9 x rfl hx) rfl (mz_iconst (1 : Int32) d_Rep_takeFirst_24 (by decide) (mz_iadd d_Rep_takeFirst_25 (mz_sipush (200 : Int32) d_Rep_takeFirst_26 (by decide) (mz_irem d_Rep_takeFirst_29 (by decide) (mz_putI (k := 1) cl_5 d_Rep_takeFirst_30 (by decide) wf_Rep_18 rfl rfl rfl rfl (hF 9 x rfl hx) rfl (let M5 : MzM := mz_si M (9, x) 1 (((mz_i M (9, x) 1) + (1 : Int32)) - ((mz_i M (9, x) 1) + (1 : Int32)) / (200 : Int32) * (200 : Int32)); (mz_aload_n d_Rep_takeFirst_33 rfl (mz_dup d_Rep_takeFirst_34 rfl (mz_getI (k := 2) cl_5 d_Rep_takeFirst_35 (by decide) wf_Rep_22 rfl (hF 9 x rfl hx) rfl (mz_iconst (1 : Int32) d_Rep_takeFirst_38 (by decide) (mz_isub d_Rep_takeFirst_39 (mz_putI (k := 2) cl_5 d_Rep_takeFirst_40 (by decide) wf_Rep_22 rfl rfl rfl rfl (hF 9 x rfl hx) rfl (let M6 : MzM := mz_si M5 (9, x) 2 ((mz_i M5 (9, x) 2) - (1 : Int32)); (mz_iload_n d_Rep_takeFirst_43 rfl (mz_iret .int d_Rep_takeFirst_44 rfl rfl ⟨rfl, hL, _, rfl, ((h4 M5 rfl) M6 rfl)⟩))))))))))))))))))))))))) (fun hc7 => (mz_iconst (-1 : Int32) d_Rep_takeFirst_7 (by decide) (mz_iret .int d_Rep_takeFirst_8 rfl rfl ⟨rfl, hL, _, rfl, (h.2 hc7)⟩)))))))
def mm_PL_reply : MzT := (⟨"ParcelLine", "reply", "(I)I"⟩, prog_1_method_9_code, 2, (Option.some Jvm.ClassFile.FieldType.int))
theorem cs_PL_reply {mm : MzT} : mzCall mm mm_PL_reply 1 := ⟨wn_PL, wco_PL_reply, by decide +kernel, by decide⟩
theorem d_PL_reply_0 : decode mm_PL_reply.2.1 0 = .ok (.iload_n 1, 1) := by decide +kernel
theorem d_PL_reply_1 : decode mm_PL_reply.2.1 1 = .ok (.invokestatic 41, 3) := by decide +kernel
theorem d_PL_reply_4 : decode mm_PL_reply.2.1 4 = .ok (.ifCond .eq 18, 3) := by decide +kernel
theorem d_PL_reply_7 : decode mm_PL_reply.2.1 7 = .ok (.aload_n 0, 1) := by decide +kernel
theorem d_PL_reply_8 : decode mm_PL_reply.2.1 8 = .ok (.getfield 18, 3) := by decide +kernel
theorem d_PL_reply_11 : decode mm_PL_reply.2.1 11 = .ok (.iload_n 1, 1) := by decide +kernel
theorem d_PL_reply_12 : decode mm_PL_reply.2.1 12 = .ok (.aaload, 1) := by decide +kernel
theorem d_PL_reply_13 : decode mm_PL_reply.2.1 13 = .ok (.getfield 101, 3) := by decide +kernel
theorem d_PL_reply_16 : decode mm_PL_reply.2.1 16 = .ok (.invokevirtual 110, 3) := by decide +kernel
theorem d_PL_reply_19 : decode mm_PL_reply.2.1 19 = .ok (.goto 4, 3) := by decide +kernel
theorem d_PL_reply_22 : decode mm_PL_reply.2.1 22 = .ok (.iconst (-1), 1) := by decide +kernel
theorem d_PL_reply_23 : decode mm_PL_reply.2.1 23 = .ok (.ireturn, 1) := by decide +kernel
def wp_PL_reply  (a1 : Int32) (M : MzM) (K : Int32 → MzM → Prop) : Prop := wp_PL_isSession  a1 M (fun v4 M1 => ((v4 = 0 → K (-1 : Int32) M1) ∧ (¬ v4 = 0 → (∃ j5 : Nat, a1.toInt = (j5 : Int) ∧ j5 < 2 ∧ wp_Rep_takeFirst j5  M1 (fun v12 M9 => K v12 M9)))))
theorem tm_PL_reply {G : MzG} {B : MzB} {d : Nat} {K : Int32 → MzM → Prop} (hF : mzLive false B)   {a1 : Int32} {M : MzM} (hL : mzLnk false M) (h : wp_PL_reply  a1 M K) : MzC G B (d + 1) mm_PL_reply [.ref (mz_ad B (0, 0)), .int a1] M (0, 0) (mzK1 false B K) := by
  unfold wp_PL_reply at h
  exact MzC.of rfl (Nat.le_of_ble_eq_true rfl) (show MzS G B (d + 1) mm_PL_reply M (0, 0) (mzK1 false B K) 0 [(0, .ref (mz_ad B (0, 0))), (1, .int a1)] [] from (mz_iload_n d_PL_reply_0 rfl (mz_callS (As := [.int a1]) (st := []) 0 0 d_PL_reply_1 cs_PL_isSession wl_PL_41 ws_PL_isSession (Nat.le_of_ble_eq_true rfl) (Nat.zero_le _) (Nat.zero_le _) (MzC.mono (tm_PL_isSession (d := d) hF  hL h) (fun r9 B9 M1 hq3 => by obtain ⟨rfl, hL2, v4, rfl, hq3⟩ := hq3; exact ⟨_, rfl, (mz_if_eq 22 d_PL_reply_4 rfl (fun hc13 => (mz_iconst (-1 : Int32) d_PL_reply_22 (by decide) (mz_iret .int d_PL_reply_23 rfl rfl ⟨rfl, hL2, _, rfl, (hq3.1 hc13)⟩))) (fun hc13 => (mz_aload_n d_PL_reply_7 rfl (mz_getR (k := 1) (a := (7, 0)) cl_0 d_PL_reply_8 (by decide) wf_PL_18 rfl (hF 0 0 rfl (by decide)) rfl (hL2 (0, 0) 1 (7, 0) rfl rfl (by decide)) (mz_iload_n d_PL_reply_11 rfl (match (hq3.2 hc13) with | ⟨j5, h6, h7, h8⟩ => mz_aald (a := (8, j5)) j5 d_PL_reply_12 (hF 7 0 rfl (by decide)) rfl h6 h7 (hL2 (7, 0) j5 (8, j5) rfl (mzLk_7 h7) (by decide)) (mz_getRN (k := 2) (a := (9, j5)) cl_4 d_PL_reply_13 (by decide) wf_PL_101 rfl (hF 8 j5 rfl h7) rfl (hL2 (8, j5) 2 (9, j5) rfl rfl h7) (mz_callV (As := []) (st := []) (hF 9 j5 rfl h7) rfl (mzClOf cl_5) 0 0 d_PL_reply_16 cs_Rep_takeFirst wl_PL_110 wi_Rep_takeFirst wse_Rep_takeFirst (Nat.le_of_ble_eq_true rfl) (Nat.zero_le _) (Nat.zero_le _) (MzC.mono (tm_Rep_takeFirst (d := d) hF h7 hL2 h8) (fun r9 B9 M9 hq11 => by obtain ⟨rfl, hL10, v12, rfl, hq11⟩ := hq11; exact ⟨_, rfl, (mz_goto 23 d_PL_reply_19 rfl (mz_iret .int d_PL_reply_23 rfl rfl ⟨rfl, hL10, _, rfl, hq11⟩))⟩))))))))))⟩)))))
