def mm_Ses_nameUser : MzT := (⟨"ParcelLine$Session", "nameUser", "()I"⟩, prog_11_method_17_code, 1, (Option.some Jvm.ClassFile.FieldType.int))
theorem cs_Ses_nameUser {mm : MzT} : mzCall mm mm_Ses_nameUser 0 := ⟨wn_Ses, wco_Ses_nameUser, by decide +kernel, by decide⟩
theorem d_Ses_nameUser_0 : decode mm_Ses_nameUser.2.1 0 = .ok (.aload_n 0, 1) := by decide +kernel
theorem d_Ses_nameUser_1 : decode mm_Ses_nameUser.2.1 1 = .ok (.invokevirtual 124, 3) := by decide +kernel
theorem d_Ses_nameUser_4 : decode mm_Ses_nameUser.2.1 4 = .ok (.aload_n 0, 1) := by decide +kernel
theorem d_Ses_nameUser_5 : decode mm_Ses_nameUser.2.1 5 = .ok (.iconst 3, 1) := by decide +kernel
theorem d_Ses_nameUser_6 : decode mm_Ses_nameUser.2.1 6 = .ok (.putfield 131, 3) := by decide +kernel
theorem d_Ses_nameUser_9 : decode mm_Ses_nameUser.2.1 9 = .ok (.aload_n 0, 1) := by decide +kernel
theorem d_Ses_nameUser_10 : decode mm_Ses_nameUser.2.1 10 = .ok (.getfield 31, 3) := by decide +kernel
theorem d_Ses_nameUser_13 : decode mm_Ses_nameUser.2.1 13 = .ok (.ldc_w 317, 3) := by decide +kernel
theorem d_Ses_nameUser_16 : decode mm_Ses_nameUser.2.1 16 = .ok (.invokevirtual 230, 3) := by decide +kernel
theorem d_Ses_nameUser_19 : decode mm_Ses_nameUser.2.1 19 = .ok (.ifCond .eq 8, 3) := by decide +kernel
theorem d_Ses_nameUser_22 : decode mm_Ses_nameUser.2.1 22 = .ok (.aload_n 0, 1) := by decide +kernel
theorem d_Ses_nameUser_23 : decode mm_Ses_nameUser.2.1 23 = .ok (.iconst 1, 1) := by decide +kernel
theorem d_Ses_nameUser_24 : decode mm_Ses_nameUser.2.1 24 = .ok (.putfield 131, 3) := by decide +kernel
theorem d_Ses_nameUser_27 : decode mm_Ses_nameUser.2.1 27 = .ok (.aload_n 0, 1) := by decide +kernel
theorem d_Ses_nameUser_28 : decode mm_Ses_nameUser.2.1 28 = .ok (.getfield 31, 3) := by decide +kernel
theorem d_Ses_nameUser_31 : decode mm_Ses_nameUser.2.1 31 = .ok (.ldc_w 319, 3) := by decide +kernel
theorem d_Ses_nameUser_34 : decode mm_Ses_nameUser.2.1 34 = .ok (.invokevirtual 230, 3) := by decide +kernel
theorem d_Ses_nameUser_37 : decode mm_Ses_nameUser.2.1 37 = .ok (.ifCond .eq 8, 3) := by decide +kernel
theorem d_Ses_nameUser_40 : decode mm_Ses_nameUser.2.1 40 = .ok (.aload_n 0, 1) := by decide +kernel
theorem d_Ses_nameUser_41 : decode mm_Ses_nameUser.2.1 41 = .ok (.iconst 2, 1) := by decide +kernel
theorem d_Ses_nameUser_42 : decode mm_Ses_nameUser.2.1 42 = .ok (.putfield 131, 3) := by decide +kernel
theorem d_Ses_nameUser_45 : decode mm_Ses_nameUser.2.1 45 = .ok (.sipush 331, 3) := by decide +kernel
theorem d_Ses_nameUser_48 : decode mm_Ses_nameUser.2.1 48 = .ok (.ireturn, 1) := by decide +kernel
def wp_Ses_nameUser_27 (x : Nat)  (K : Int32 → MzM → Prop)  (M : MzM) : Prop := wp_Lin_argumentIs x 3  M (fun v14 M11 => ((v14 = 0 → K (331 : Int32) M11) ∧ (¬ v14 = 0 → (∀ M15 : MzM, M15 = mz_si M11 (8, x) 9 (2 : Int32) → K (331 : Int32) M15))))
def wp_Ses_nameUser (x : Nat)  (M : MzM) (K : Int32 → MzM → Prop) : Prop := wp_Ses_logOut x  M (fun M1 => (∀ M4 : MzM, M4 = mz_si M1 (8, x) 9 (3 : Int32) → wp_Lin_argumentIs x 2  M4 (fun v8 M5 => ((v8 = 0 → wp_Ses_nameUser_27 x  K  M5) ∧ (¬ v8 = 0 → (∀ M9 : MzM, M9 = mz_si M5 (8, x) 9 (1 : Int32) → wp_Ses_nameUser_27 x  K  M9))))))
theorem tm_Ses_nameUser_27 {G : MzG} {B : MzB} {d : Nat} {K : Int32 → MzM → Prop} (hF : mzLive false B) {x : Nat} (hx : x < 2)    (M : MzM) (hL : mzLnk false M) (h : wp_Ses_nameUser_27 x  K  M) : MzS G B (d + 5) mm_Ses_nameUser M (0, 0) (mzK1 false B K) 27 [(0, .ref (mz_ad B (8, x)))] [] := by
  unfold wp_Ses_nameUser_27 at h
  exact (mz_aload_n d_Ses_nameUser_27 rfl (mz_getR (k := 3) (a := (12, x)) cl_4 d_Ses_nameUser_28 (by decide) wf_Ses_31 rfl (hF 8 x rfl hx) rfl (hL (8, x) 3 (12, x) rfl rfl hx) (mz_ldcwS d_Ses_nameUser_31 (fun A s hr => (mz_u hr (mz_strIn (k := 3) (by decide))).2.2.2.2) (mz_callV (As := [.ref (G.2 (100 + 3))]) (st := []) (hF 12 x rfl hx) rfl (mzClOf cl_6) 0 0 d_Ses_nameUser_34 cs_Lin_argumentIs wl_Ses_230 wi_Lin_argumentIs wse_Lin_argumentIs (Nat.le_of_ble_eq_true rfl) (Nat.zero_le _) (Nat.zero_le _) (MzC.mono (tm_Lin_argumentIs (d := d) hF hx (by decide) hL h) (fun r9 B9 M11 hq13 => by obtain ⟨rfl, hL12, v14, rfl, hq13⟩ := hq13; exact ⟨_, rfl, (mz_if_eq 45 d_Ses_nameUser_37 rfl (fun hc16 => (mz_sipush (331 : Int32) d_Ses_nameUser_45 (by decide) (mz_iret .int d_Ses_nameUser_48 rfl rfl ⟨rfl, hL12, _, rfl, (hq13.1 hc16)⟩))) (fun hc16 => (mz_aload_n d_Ses_nameUser_40 rfl (mz_iconst (2 : Int32) d_Ses_nameUser_41 (by decide) (mz_putI (k := 9) cl_4 d_Ses_nameUser_42 (by decide) wf_Ses_131 rfl rfl rfl rfl (hF 8 x rfl hx) rfl (let M15 : MzM := mz_si M11 (8, x) 9 (2 : Int32); (mz_sipush (331 : Int32) d_Ses_nameUser_45 (by decide) (mz_iret .int d_Ses_nameUser_48 rfl rfl ⟨rfl, hL12, _, rfl, ((hq13.2 hc16) M15 rfl)⟩))))))))⟩))))))
theorem tm_Ses_nameUser {G : MzG} {B : MzB} {d : Nat} {K : Int32 → MzM → Prop} (hF : mzLive false B) {x : Nat} (hx : x < 2)  {M : MzM} (hL : mzLnk false M) (h : wp_Ses_nameUser x  M K) : MzC G B (d + 5) mm_Ses_nameUser [.ref (mz_ad B (8, x))] M (0, 0) (mzK1 false B K) := by
  unfold wp_Ses_nameUser at h
  exact MzC.of rfl (Nat.le_of_ble_eq_true rfl) (show MzS G B (d + 5) mm_Ses_nameUser M (0, 0) (mzK1 false B K) 0 [(0, .ref (mz_ad B (8, x)))] [] from (mz_aload_n d_Ses_nameUser_0 rfl (mz_callV (As := []) (st := []) (hF 8 x rfl hx) rfl (mzClOf cl_4) 0 0 d_Ses_nameUser_1 cs_Ses_logOut wl_Ses_124 wi_Ses_logOut wse_Ses_logOut (Nat.le_of_ble_eq_true rfl) (Nat.zero_le _) (Nat.zero_le _) (MzC.mono (tm_Ses_logOut (d := (d + 4)) hF hx hL h) (fun r9 B9 M1 hq3 => by obtain ⟨rfl, hL2, rfl, hq3⟩ := hq3; exact ⟨none, rfl, (mz_aload_n d_Ses_nameUser_4 rfl (mz_iconst (3 : Int32) d_Ses_nameUser_5 (by decide) (mz_putI (k := 9) cl_4 d_Ses_nameUser_6 (by decide) wf_Ses_131 rfl rfl rfl rfl (hF 8 x rfl hx) rfl (let M4 : MzM := mz_si M1 (8, x) 9 (3 : Int32); (mz_aload_n d_Ses_nameUser_9 rfl (mz_getR (k := 3) (a := (12, x)) cl_4 d_Ses_nameUser_10 (by decide) wf_Ses_31 rfl (hF 8 x rfl hx) rfl (hL2 (8, x) 3 (12, x) rfl rfl hx) (mz_ldcwS d_Ses_nameUser_13 (fun A s hr => (mz_u hr (mz_strIn (k := 2) (by decide))).2.2.2.2) (mz_callV (As := [.ref (G.2 (100 + 2))]) (st := []) (hF 12 x rfl hx) rfl (mzClOf cl_6) 0 0 d_Ses_nameUser_16 cs_Lin_argumentIs wl_Ses_230 wi_Lin_argumentIs wse_Lin_argumentIs (Nat.le_of_ble_eq_true rfl) (Nat.zero_le _) (Nat.zero_le _) (MzC.mono (tm_Lin_argumentIs (d := d) hF hx (by decide) hL2 (hq3 M4 rfl)) (fun r9 B9 M5 hq7 => by obtain ⟨rfl, hL6, v8, rfl, hq7⟩ := hq7; exact ⟨_, rfl, (mz_if_eq 27 d_Ses_nameUser_19 rfl (fun hc10 => (MzS.loc [(0, .ref (mz_ad B (8, x)))] ⟨rfl, trivial⟩ (tm_Ses_nameUser_27 hF hx   M5 hL6 (hq7.1 hc10)))) (fun hc10 => (mz_aload_n d_Ses_nameUser_22 rfl (mz_iconst (1 : Int32) d_Ses_nameUser_23 (by decide) (mz_putI (k := 9) cl_4 d_Ses_nameUser_24 (by decide) wf_Ses_131 rfl rfl rfl rfl (hF 8 x rfl hx) rfl (let M9 : MzM := mz_si M5 (8, x) 9 (1 : Int32); (MzS.loc [(0, .ref (mz_ad B (8, x)))] ⟨rfl, trivial⟩ (tm_Ses_nameUser_27 hF hx   M9 hL6 ((hq7.2 hc10) M9 rfl)))))))))⟩))))))))))⟩)))))
def mm_Ses_logIn : MzT := (⟨"ParcelLine$Session", "logIn", "()I"⟩, prog_11_method_18_code, 1, (Option.some Jvm.ClassFile.FieldType.int))
theorem cs_Ses_logIn {mm : MzT} : mzCall mm mm_Ses_logIn 0 := ⟨wn_Ses, wco_Ses_logIn, by decide +kernel, by decide⟩
theorem d_Ses_logIn_0 : decode mm_Ses_logIn.2.1 0 = .ok (.aload_n 0, 1) := by decide +kernel
theorem d_Ses_logIn_1 : decode mm_Ses_logIn.2.1 1 = .ok (.getfield 131, 3) := by decide +kernel
theorem d_Ses_logIn_4 : decode mm_Ses_logIn.2.1 4 = .ok (.ifCond .ne 7, 3) := by decide +kernel
theorem d_Ses_logIn_7 : decode mm_Ses_logIn.2.1 7 = .ok (.sipush 503, 3) := by decide +kernel
theorem d_Ses_logIn_10 : decode mm_Ses_logIn.2.1 10 = .ok (.ireturn, 1) := by decide +kernel
theorem d_Ses_logIn_11 : decode mm_Ses_logIn.2.1 11 = .ok (.aload_n 0, 1) := by decide +kernel
theorem d_Ses_logIn_12 : decode mm_Ses_logIn.2.1 12 = .ok (.getfield 131, 3) := by decide +kernel
theorem d_Ses_logIn_15 : decode mm_Ses_logIn.2.1 15 = .ok (.iconst 3, 1) := by decide +kernel
theorem d_Ses_logIn_16 : decode mm_Ses_logIn.2.1 16 = .ok (.if_icmp .eq 24, 3) := by decide +kernel
theorem d_Ses_logIn_19 : decode mm_Ses_logIn.2.1 19 = .ok (.aload_n 0, 1) := by decide +kernel
theorem d_Ses_logIn_20 : decode mm_Ses_logIn.2.1 20 = .ok (.getfield 131, 3) := by decide +kernel
theorem d_Ses_logIn_23 : decode mm_Ses_logIn.2.1 23 = .ok (.iconst 1, 1) := by decide +kernel
theorem d_Ses_logIn_24 : decode mm_Ses_logIn.2.1 24 = .ok (.if_icmp .ne 20, 3) := by decide +kernel
theorem d_Ses_logIn_27 : decode mm_Ses_logIn.2.1 27 = .ok (.aload_n 0, 1) := by decide +kernel
theorem d_Ses_logIn_28 : decode mm_Ses_logIn.2.1 28 = .ok (.getfield 31, 3) := by decide +kernel
theorem d_Ses_logIn_31 : decode mm_Ses_logIn.2.1 31 = .ok (.ldc_w 321, 3) := by decide +kernel
theorem d_Ses_logIn_34 : decode mm_Ses_logIn.2.1 34 = .ok (.invokevirtual 230, 3) := by decide +kernel
theorem d_Ses_logIn_37 : decode mm_Ses_logIn.2.1 37 = .ok (.ifCond .ne 7, 3) := by decide +kernel
theorem d_Ses_logIn_40 : decode mm_Ses_logIn.2.1 40 = .ok (.sipush 530, 3) := by decide +kernel
theorem d_Ses_logIn_43 : decode mm_Ses_logIn.2.1 43 = .ok (.ireturn, 1) := by decide +kernel
theorem d_Ses_logIn_44 : decode mm_Ses_logIn.2.1 44 = .ok (.aload_n 0, 1) := by decide +kernel
theorem d_Ses_logIn_45 : decode mm_Ses_logIn.2.1 45 = .ok (.aload_n 0, 1) := by decide +kernel
theorem d_Ses_logIn_46 : decode mm_Ses_logIn.2.1 46 = .ok (.getfield 131, 3) := by decide +kernel
theorem d_Ses_logIn_49 : decode mm_Ses_logIn.2.1 49 = .ok (.putfield 140, 3) := by decide +kernel
theorem d_Ses_logIn_52 : decode mm_Ses_logIn.2.1 52 = .ok (.aload_n 0, 1) := by decide +kernel
theorem d_Ses_logIn_53 : decode mm_Ses_logIn.2.1 53 = .ok (.getfield 15, 3) := by decide +kernel
theorem d_Ses_logIn_56 : decode mm_Ses_logIn.2.1 56 = .ok (.getfield 143, 3) := by decide +kernel
theorem d_Ses_logIn_59 : decode mm_Ses_logIn.2.1 59 = .ok (.aload_n 0, 1) := by decide +kernel
theorem d_Ses_logIn_60 : decode mm_Ses_logIn.2.1 60 = .ok (.getfield 9, 3) := by decide +kernel
theorem d_Ses_logIn_63 : decode mm_Ses_logIn.2.1 63 = .ok (.iconst 0, 1) := by decide +kernel
theorem d_Ses_logIn_64 : decode mm_Ses_logIn.2.1 64 = .ok (.iastore, 1) := by decide +kernel
theorem d_Ses_logIn_65 : decode mm_Ses_logIn.2.1 65 = .ok (.aload_n 0, 1) := by decide +kernel
theorem d_Ses_logIn_66 : decode mm_Ses_logIn.2.1 66 = .ok (.iconst 0, 1) := by decide +kernel
theorem d_Ses_logIn_67 : decode mm_Ses_logIn.2.1 67 = .ok (.putfield 127, 3) := by decide +kernel
theorem d_Ses_logIn_70 : decode mm_Ses_logIn.2.1 70 = .ok (.sipush 230, 3) := by decide +kernel
theorem d_Ses_logIn_73 : decode mm_Ses_logIn.2.1 73 = .ok (.ireturn, 1) := by decide +kernel
def wp_Ses_logIn_44 (x : Nat)  (K : Int32 → MzM → Prop)  (M : MzM) : Prop := (∀ M9 : MzM, M9 = mz_si M (8, x) 7 (mz_i M (8, x) 9) → (∃ j13 : Nat, (mz_i M9 (8, x) 0).toInt = (j13 : Int) ∧ j13 < 2 ∧ ∀ M10 : MzM, M10 = mz_si M9 (6, 0) j13 (0 : Int32) → (∀ M16 : MzM, M16 = mz_si M10 (8, x) 8 (0 : Int32) → K (230 : Int32) M16)))
def wp_Ses_logIn (x : Nat)  (M : MzM) (K : Int32 → MzM → Prop) : Prop := ((¬ (mz_i M (8, x) 9) = 0 → (((mz_i M (8, x) 9) = (3 : Int32) → K (530 : Int32) M) ∧ (¬ (mz_i M (8, x) 9) = (3 : Int32) → ((¬ (mz_i M (8, x) 9) = (1 : Int32) → wp_Ses_logIn_44 x  K  M) ∧ ((mz_i M (8, x) 9) = (1 : Int32) → wp_Lin_argumentIs x 4  M (fun v4 M1 => ((¬ v4 = 0 → wp_Ses_logIn_44 x  K  M1) ∧ (v4 = 0 → K (530 : Int32) M1)))))))) ∧ ((mz_i M (8, x) 9) = 0 → K (503 : Int32) M))
theorem tm_Ses_logIn_44 {G : MzG} {B : MzB} {d : Nat} {K : Int32 → MzM → Prop} (hF : mzLive false B) {x : Nat} (hx : x < 2)    (M : MzM) (hL : mzLnk false M) (h : wp_Ses_logIn_44 x  K  M) : MzS G B (d + 5) mm_Ses_logIn M (0, 0) (mzK1 false B K) 44 [(0, .ref (mz_ad B (8, x)))] [] := by
  unfold wp_Ses_logIn_44 at h
  exact (mz_aload_n d_Ses_logIn_44 rfl (mz_aload_n d_Ses_logIn_45 rfl (mz_getI (k := 9) cl_4 d_Ses_logIn_46 (by decide) wf_Ses_131 rfl (hF 8 x rfl hx) rfl (mz_putI (k := 7) cl_4 d_Ses_logIn_49 (by decide) wf_Ses_140 rfl rfl rfl rfl (hF 8 x rfl hx) rfl (let M9 : MzM := mz_si M (8, x) 7 (mz_i M (8, x) 9); (mz_aload_n d_Ses_logIn_52 rfl (mz_getR (k := 1) (a := (1, 0)) cl_4 d_Ses_logIn_53 (by decide) wf_Ses_15 rfl (hF 8 x rfl hx) rfl (hL (8, x) 1 (1, 0) rfl rfl hx) (mz_getRN (k := 1) (a := (6, 0)) cl_1 d_Ses_logIn_56 (by decide) wf_Ses_143 rfl (hF 1 0 rfl (by decide)) rfl (hL (1, 0) 1 (6, 0) rfl rfl (by decide)) (mz_aload_n d_Ses_logIn_59 rfl (mz_getI (k := 0) cl_4 d_Ses_logIn_60 (by decide) wf_Ses_9 rfl (hF 8 x rfl hx) rfl (mz_iconst (0 : Int32) d_Ses_logIn_63 (by decide) (match (h M9 rfl) with | ⟨j13, h14, h15, h12⟩ => mz_iast j13 d_Ses_logIn_64 (hF 6 0 rfl (by decide)) rfl h14 h15 (let M10 : MzM := mz_si M9 (6, 0) j13 (0 : Int32); (mz_aload_n d_Ses_logIn_65 rfl (mz_iconst (0 : Int32) d_Ses_logIn_66 (by decide) (mz_putI (k := 8) cl_4 d_Ses_logIn_67 (by decide) wf_Ses_127 rfl rfl rfl rfl (hF 8 x rfl hx) rfl (let M16 : MzM := mz_si M10 (8, x) 8 (0 : Int32); (mz_sipush (230 : Int32) d_Ses_logIn_70 (by decide) (mz_iret .int d_Ses_logIn_73 rfl rfl ⟨rfl, hL, _, rfl, ((h12 M10 rfl) M16 rfl)⟩)))))))))))))))))))
theorem tm_Ses_logIn {G : MzG} {B : MzB} {d : Nat} {K : Int32 → MzM → Prop} (hF : mzLive false B) {x : Nat} (hx : x < 2)  {M : MzM} (hL : mzLnk false M) (h : wp_Ses_logIn x  M K) : MzC G B (d + 5) mm_Ses_logIn [.ref (mz_ad B (8, x))] M (0, 0) (mzK1 false B K) := by
  unfold wp_Ses_logIn at h
  exact MzC.of rfl (Nat.le_of_ble_eq_true rfl) (show MzS G B (d + 5) mm_Ses_logIn M (0, 0) (mzK1 false B K) 0 [(0, .ref (mz_ad B (8, x)))] [] from (mz_aload_n d_Ses_logIn_0 rfl (mz_getI (k := 9) cl_4 d_Ses_logIn_1 (by decide) wf_Ses_131 rfl (hF 8 x rfl hx) rfl (mz_if_ne 11 d_Ses_logIn_4 rfl (fun hc8 => (mz_aload_n d_Ses_logIn_11 rfl (mz_getI (k := 9) cl_4 d_Ses_logIn_12 (by decide) wf_Ses_131 rfl (hF 8 x rfl hx) rfl (mz_iconst (3 : Int32) d_Ses_logIn_15 (by decide) (mz_icmp_eq 40 d_Ses_logIn_16 rfl (fun hc7 => (mz_sipush (530 : Int32) d_Ses_logIn_40 (by decide) (mz_iret .int d_Ses_logIn_43 rfl rfl ⟨rfl, hL, _, rfl, ((h.1 hc8).1 hc7)⟩))) (fun hc7 => (mz_aload_n d_Ses_logIn_19 rfl (mz_getI (k := 9) cl_4 d_Ses_logIn_20 (by decide) wf_Ses_131 rfl (hF 8 x rfl hx) rfl (mz_iconst (1 : Int32) d_Ses_logIn_23 (by decide) (mz_icmp_ne 44 d_Ses_logIn_24 rfl (fun hc6 => (MzS.loc [(0, .ref (mz_ad B (8, x)))] ⟨rfl, trivial⟩ (tm_Ses_logIn_44 hF hx   M hL (((h.1 hc8).2 hc7).1 hc6)))) (fun hc6 => (mz_aload_n d_Ses_logIn_27 rfl (mz_getR (k := 3) (a := (12, x)) cl_4 d_Ses_logIn_28 (by decide) wf_Ses_31 rfl (hF 8 x rfl hx) rfl (hL (8, x) 3 (12, x) rfl rfl hx) (mz_ldcwS d_Ses_logIn_31 (fun A s hr => (mz_u hr (mz_strIn (k := 4) (by decide))).2.2.2.2) (mz_callV (As := [.ref (G.2 (100 + 4))]) (st := []) (hF 12 x rfl hx) rfl (mzClOf cl_6) 0 0 d_Ses_logIn_34 cs_Lin_argumentIs wl_Ses_230 wi_Lin_argumentIs wse_Lin_argumentIs (Nat.le_of_ble_eq_true rfl) (Nat.zero_le _) (Nat.zero_le _) (MzC.mono (tm_Lin_argumentIs (d := d) hF hx (by decide) hL (((h.1 hc8).2 hc7).2 hc6)) (fun r9 B9 M1 hq3 => by obtain ⟨rfl, hL2, v4, rfl, hq3⟩ := hq3; exact ⟨_, rfl, (mz_if_ne 44 d_Ses_logIn_37 rfl (fun hc5 => (MzS.loc [(0, .ref (mz_ad B (8, x)))] ⟨rfl, trivial⟩ (tm_Ses_logIn_44 hF hx   M1 hL2 (hq3.1 hc5)))) (fun hc5 => (mz_sipush (530 : Int32) d_Ses_logIn_40 (by decide) (mz_iret .int d_Ses_logIn_43 rfl rfl ⟨rfl, hL2, _, rfl, (hq3.2 hc5)⟩))))⟩))))))))))))))))) (fun hc8 => (mz_sipush (503 : Int32) d_Ses_logIn_7 (by decide) (mz_iret .int d_Ses_logIn_10 rfl rfl ⟨rfl, hL, _, rfl, (h.2 hc8)⟩)))))))
def mm_Row_add : MzT := (⟨"ParcelLine$ByteRow", "add", "(I)V"⟩, prog_3_method_2_code, 2, (Option.none : Option Jvm.ClassFile.FieldType))
theorem cs_Row_add {mm : MzT} : mzCall mm mm_Row_add 1 := ⟨wn_Row, wco_Row_add, by decide +kernel, by decide⟩
theorem d_Row_add_0 : decode mm_Row_add.2.1 0 = .ok (.aload_n 0, 1) := by decide +kernel
theorem d_Row_add_1 : decode mm_Row_add.2.1 1 = .ok (.getfield 15, 3) := by decide +kernel
theorem d_Row_add_4 : decode mm_Row_add.2.1 4 = .ok (.bipush 24, 2) := by decide +kernel
theorem d_Row_add_6 : decode mm_Row_add.2.1 6 = .ok (.if_icmp .ge 23, 3) := by decide +kernel
theorem d_Row_add_9 : decode mm_Row_add.2.1 9 = .ok (.aload_n 0, 1) := by decide +kernel
theorem d_Row_add_10 : decode mm_Row_add.2.1 10 = .ok (.getfield 9, 3) := by decide +kernel
theorem d_Row_add_13 : decode mm_Row_add.2.1 13 = .ok (.aload_n 0, 1) := by decide +kernel
theorem d_Row_add_14 : decode mm_Row_add.2.1 14 = .ok (.getfield 15, 3) := by decide +kernel
theorem d_Row_add_17 : decode mm_Row_add.2.1 17 = .ok (.iload_n 1, 1) := by decide +kernel
theorem d_Row_add_18 : decode mm_Row_add.2.1 18 = .ok (.iastore, 1) := by decide +kernel
theorem d_Row_add_19 : decode mm_Row_add.2.1 19 = .ok (.aload_n 0, 1) := by decide +kernel
theorem d_Row_add_20 : decode mm_Row_add.2.1 20 = .ok (.dup, 1) := by decide +kernel
theorem d_Row_add_21 : decode mm_Row_add.2.1 21 = .ok (.getfield 15, 3) := by decide +kernel
theorem d_Row_add_24 : decode mm_Row_add.2.1 24 = .ok (.iconst 1, 1) := by decide +kernel
theorem d_Row_add_25 : decode mm_Row_add.2.1 25 = .ok (.iadd, 1) := by decide +kernel
theorem d_Row_add_26 : decode mm_Row_add.2.1 26 = .ok (.putfield 15, 3) := by decide +kernel
theorem d_Row_add_29 : decode mm_Row_add.2.1 29 = .ok (.return_, 1) := by decide +kernel
def wp_Row_add (n : Nat) (a1 : Int32) (M : MzM) (K : MzM → Prop) : Prop := (((24 : Int32) ≤ (mz_i M (4, n) 1) → K M) ∧ (¬ (24 : Int32) ≤ (mz_i M (4, n) 1) → (∃ j4 : Nat, (mz_i M (4, n) 1).toInt = (j4 : Int) ∧ j4 < 24 ∧ ∀ M1 : MzM, M1 = mz_si M (5, n) j4 a1 → (∀ M7 : MzM, M7 = mz_si M1 (4, n) 1 ((mz_i M1 (4, n) 1) + (1 : Int32)) → K M7))))
theorem tm_Row_add {G : MzG} {B : MzB} {d : Nat} {K : MzM → Prop} (hF : mzLive false B) {n : Nat} (hn : n < 16) {a1 : Int32} {M : MzM} (hL : mzLnk false M) (h : wp_Row_add n a1 M K) : MzC G B d mm_Row_add [.ref (mz_ad B (4, n)), .int a1] M (0, 0) (mzK0 false B K) := by
  unfold wp_Row_add at h
  exact MzC.of rfl (Nat.le_of_ble_eq_true rfl) (show MzS G B d mm_Row_add M (0, 0) (mzK0 false B K) 0 [(0, .ref (mz_ad B (4, n))), (1, .int a1)] [] from (mz_aload_n d_Row_add_0 rfl (mz_getI (k := 1) cl_3 d_Row_add_1 (by decide) wf_Row_15 rfl (hF 4 n rfl hn) rfl (mz_bipush (24 : Int32) d_Row_add_4 (by decide) (mz_icmp_ge 29 d_Row_add_6 rfl (fun hc8 => (mz_vret d_Row_add_29 rfl ⟨rfl, hL, rfl, (h.1 hc8)⟩)) (fun hc8 => (mz_aload_n d_Row_add_9 rfl (mz_getR (k := 0) (a := (5, n)) cl_3 d_Row_add_10 (by decide) wf_Row_9 rfl (hF 4 n rfl hn) rfl (hL (4, n) 0 (5, n) rfl rfl hn) (mz_aload_n d_Row_add_13 rfl (mz_getI (k := 1) cl_3 d_Row_add_14 (by decide) wf_Row_15 rfl (hF 4 n rfl hn) rfl (mz_iload_n d_Row_add_17 rfl (match (h.2 hc8) with | ⟨j4, h5, h6, h3⟩ => mz_iast j4 d_Row_add_18 (hF 5 n rfl hn) rfl h5 h6 (let M1 : MzM := mz_si M (5, n) j4 a1; (mz_aload_n d_Row_add_19 rfl (mz_dup d_Row_add_20 rfl (mz_getI (k := 1) cl_3 d_Row_add_21 (by decide) wf_Row_15 rfl (hF 4 n rfl hn) rfl (mz_iconst (1 : Int32) d_Row_add_24 (by decide) (mz_iadd d_Row_add_25 (mz_putI (k := 1) cl_3 d_Row_add_26 (by decide) wf_Row_15 rfl rfl rfl rfl (hF 4 n rfl hn) rfl (let M7 : MzM := mz_si M1 (4, n) 1 ((mz_i M1 (4, n) 1) + (1 : Int32)); (mz_vret d_Row_add_29 rfl ⟨rfl, hL, rfl, ((h3 M1 rfl) M7 rfl)⟩)))))))))))))))))))))
def wp_Row_adds (k : Nat) (a1 : Int32) (M : MzM) (K : MzM → Prop) : Prop := (((24 : Int32) ≤ (mz_i M (20, k) 1) → K M) ∧ (¬ (24 : Int32) ≤ (mz_i M (20, k) 1) → (∃ j4 : Nat, (mz_i M (20, k) 1).toInt = (j4 : Int) ∧ j4 < 24 ∧ ∀ M1 : MzM, M1 = mz_si M (21, k) j4 a1 → (∀ M7 : MzM, M7 = mz_si M1 (20, k) 1 ((mz_i M1 (20, k) 1) + (1 : Int32)) → K M7))))
theorem tm_Row_adds {G : MzG} {B : MzB} {d : Nat} {K : MzM → Prop} (hF : mzLive false B) {k : Nat} (hk : k < 3) {a1 : Int32} {M : MzM} (hL : mzLnk false M) (h : wp_Row_adds k a1 M K) : MzC G B d mm_Row_add [.ref (mz_ad B (20, k)), .int a1] M (0, 0) (mzK0 false B K) := by
  unfold wp_Row_adds at h
  exact MzC.of rfl (Nat.le_of_ble_eq_true rfl) (show MzS G B d mm_Row_add M (0, 0) (mzK0 false B K) 0 [(0, .ref (mz_ad B (20, k))), (1, .int a1)] [] from (mz_aload_n d_Row_add_0 rfl (mz_getI (k := 1) cl_3 d_Row_add_1 (by decide) wf_Row_15 rfl (hF 20 k rfl hk) rfl (mz_bipush (24 : Int32) d_Row_add_4 (by decide) (mz_icmp_ge 29 d_Row_add_6 rfl (fun hc8 => (mz_vret d_Row_add_29 rfl ⟨rfl, hL, rfl, (h.1 hc8)⟩)) (fun hc8 => (mz_aload_n d_Row_add_9 rfl (mz_getR (k := 0) (a := (21, k)) cl_3 d_Row_add_10 (by decide) wf_Row_9 rfl (hF 20 k rfl hk) rfl (hL (20, k) 0 (21, k) rfl rfl hk) (mz_aload_n d_Row_add_13 rfl (mz_getI (k := 1) cl_3 d_Row_add_14 (by decide) wf_Row_15 rfl (hF 20 k rfl hk) rfl (mz_iload_n d_Row_add_17 rfl (match (h.2 hc8) with | ⟨j4, h5, h6, h3⟩ => mz_iast j4 d_Row_add_18 (hF 21 k rfl hk) rfl h5 h6 (let M1 : MzM := mz_si M (21, k) j4 a1; (mz_aload_n d_Row_add_19 rfl (mz_dup d_Row_add_20 rfl (mz_getI (k := 1) cl_3 d_Row_add_21 (by decide) wf_Row_15 rfl (hF 20 k rfl hk) rfl (mz_iconst (1 : Int32) d_Row_add_24 (by decide) (mz_iadd d_Row_add_25 (mz_putI (k := 1) cl_3 d_Row_add_26 (by decide) wf_Row_15 rfl rfl rfl rfl (hF 20 k rfl hk) rfl (let M7 : MzM := mz_si M1 (20, k) 1 ((mz_i M1 (20, k) 1) + (1 : Int32)); (mz_vret d_Row_add_29 rfl ⟨rfl, hL, rfl, ((h3 M1 rfl) M7 rfl)⟩)))))))))))))))))))))
def mm_Way_end : MzT := (⟨"ParcelLine$DataWay", "end", "()V"⟩, prog_6_method_10_code, 1, (Option.none : Option Jvm.ClassFile.FieldType))
theorem cs_Way_end {mm : MzT} : mzCall mm mm_Way_end 0 := ⟨wn_Way, wco_Way_end, by decide +kernel, by decide⟩
theorem d_Way_end_0 : decode mm_Way_end.2.1 0 = .ok (.aload_n 0, 1) := by decide +kernel
theorem d_Way_end_1 : decode mm_Way_end.2.1 1 = .ok (.getfield 22, 3) := by decide +kernel
theorem d_Way_end_4 : decode mm_Way_end.2.1 4 = .ok (.ifnull 24, 3) := by decide +kernel
theorem d_Way_end_7 : decode mm_Way_end.2.1 7 = .ok (.aload_n 0, 1) := by decide +kernel
theorem d_Way_end_8 : decode mm_Way_end.2.1 8 = .ok (.getfield 19, 3) := by decide +kernel
theorem d_Way_end_11 : decode mm_Way_end.2.1 11 = .ok (.iconst 1, 1) := by decide +kernel
theorem d_Way_end_12 : decode mm_Way_end.2.1 12 = .ok (.if_icmp .ne 16, 3) := by decide +kernel
theorem d_Way_end_15 : decode mm_Way_end.2.1 15 = .ok (.aload_n 0, 1) := by decide +kernel
theorem d_Way_end_16 : decode mm_Way_end.2.1 16 = .ok (.getfield 22, 3) := by decide +kernel
theorem d_Way_end_19 : decode mm_Way_end.2.1 19 = .ok (.dup, 1) := by decide +kernel
theorem d_Way_end_20 : decode mm_Way_end.2.1 20 = .ok (.getfield 26, 3) := by decide +kernel
theorem d_Way_end_23 : decode mm_Way_end.2.1 23 = .ok (.iconst 1, 1) := by decide +kernel
theorem d_Way_end_24 : decode mm_Way_end.2.1 24 = .ok (.isub, 1) := by decide +kernel
theorem d_Way_end_25 : decode mm_Way_end.2.1 25 = .ok (.putfield 26, 3) := by decide +kernel
theorem d_Way_end_28 : decode mm_Way_end.2.1 28 = .ok (.aload_n 0, 1) := by decide +kernel
theorem d_Way_end_29 : decode mm_Way_end.2.1 29 = .ok (.getfield 22, 3) := by decide +kernel
theorem d_Way_end_32 : decode mm_Way_end.2.1 32 = .ok (.ifnull 38, 3) := by decide +kernel
theorem d_Way_end_35 : decode mm_Way_end.2.1 35 = .ok (.aload_n 0, 1) := by decide +kernel
theorem d_Way_end_36 : decode mm_Way_end.2.1 36 = .ok (.getfield 19, 3) := by decide +kernel
theorem d_Way_end_39 : decode mm_Way_end.2.1 39 = .ok (.iconst 2, 1) := by decide +kernel
theorem d_Way_end_40 : decode mm_Way_end.2.1 40 = .ok (.if_icmp .ne 30, 3) := by decide +kernel
theorem d_Way_end_43 : decode mm_Way_end.2.1 43 = .ok (.aload_n 0, 1) := by decide +kernel
theorem d_Way_end_44 : decode mm_Way_end.2.1 44 = .ok (.getfield 58, 3) := by decide +kernel
theorem d_Way_end_47 : decode mm_Way_end.2.1 47 = .ok (.ifCond .eq 15, 3) := by decide +kernel
theorem d_Way_end_50 : decode mm_Way_end.2.1 50 = .ok (.aload_n 0, 1) := by decide +kernel
theorem d_Way_end_51 : decode mm_Way_end.2.1 51 = .ok (.getfield 22, 3) := by decide +kernel
theorem d_Way_end_54 : decode mm_Way_end.2.1 54 = .ok (.getfield 31, 3) := by decide +kernel
theorem d_Way_end_57 : decode mm_Way_end.2.1 57 = .ok (.bipush 13, 2) := by decide +kernel
theorem d_Way_end_59 : decode mm_Way_end.2.1 59 = .ok (.invokevirtual 61, 3) := by decide +kernel
theorem d_Way_end_62 : decode mm_Way_end.2.1 62 = .ok (.aload_n 0, 1) := by decide +kernel
theorem d_Way_end_63 : decode mm_Way_end.2.1 63 = .ok (.getfield 22, 3) := by decide +kernel
theorem d_Way_end_66 : decode mm_Way_end.2.1 66 = .ok (.iconst 0, 1) := by decide +kernel
theorem d_Way_end_67 : decode mm_Way_end.2.1 67 = .ok (.putfield 52, 3) := by decide +kernel
theorem d_Way_end_70 : decode mm_Way_end.2.1 70 = .ok (.aload_n 0, 1) := by decide +kernel
theorem d_Way_end_71 : decode mm_Way_end.2.1 71 = .ok (.iconst 0, 1) := by decide +kernel
theorem d_Way_end_72 : decode mm_Way_end.2.1 72 = .ok (.putfield 67, 3) := by decide +kernel
theorem d_Way_end_75 : decode mm_Way_end.2.1 75 = .ok (.aload_n 0, 1) := by decide +kernel
theorem d_Way_end_76 : decode mm_Way_end.2.1 76 = .ok (.iconst 0, 1) := by decide +kernel
theorem d_Way_end_77 : decode mm_Way_end.2.1 77 = .ok (.putfield 19, 3) := by decide +kernel
theorem d_Way_end_80 : decode mm_Way_end.2.1 80 = .ok (.aload_n 0, 1) := by decide +kernel
theorem d_Way_end_81 : decode mm_Way_end.2.1 81 = .ok (.iconst 0, 1) := by decide +kernel
theorem d_Way_end_82 : decode mm_Way_end.2.1 82 = .ok (.putfield 58, 3) := by decide +kernel
theorem d_Way_end_85 : decode mm_Way_end.2.1 85 = .ok (.aload_n 0, 1) := by decide +kernel
theorem d_Way_end_86 : decode mm_Way_end.2.1 86 = .ok (.aconst_null, 1) := by decide +kernel
theorem d_Way_end_87 : decode mm_Way_end.2.1 87 = .ok (.putfield 22, 3) := by decide +kernel
theorem d_Way_end_90 : decode mm_Way_end.2.1 90 = .ok (.aload_n 0, 1) := by decide +kernel
theorem d_Way_end_91 : decode mm_Way_end.2.1 91 = .ok (.iconst 0, 1) := by decide +kernel
theorem d_Way_end_92 : decode mm_Way_end.2.1 92 = .ok (.putfield 64, 3) := by decide +kernel
theorem d_Way_end_95 : decode mm_Way_end.2.1 95 = .ok (.aload_n 0, 1) := by decide +kernel
theorem d_Way_end_96 : decode mm_Way_end.2.1 96 = .ok (.iconst 0, 1) := by decide +kernel
theorem d_Way_end_97 : decode mm_Way_end.2.1 97 = .ok (.putfield 15, 3) := by decide +kernel
theorem d_Way_end_100 : decode mm_Way_end.2.1 100 = .ok (.return_, 1) := by decide +kernel
def wp_Way_end_70 (x : Nat)  (K : MzM → Prop)  (M : MzM) : Prop := (∀ M28 : MzM, M28 = mz_si M (16, x) 0 (0 : Int32) → (∀ M29 : MzM, M29 = mz_si M28 (16, x) 1 (0 : Int32) → (∀ M30 : MzM, M30 = mz_si M29 (16, x) 3 (0 : Int32) → (∀ M31 : MzM, M31 = mz_sr M30 (16, x) 4 none → (∀ M33 : MzM, M33 = mz_si M31 (16, x) 6 (0 : Int32) → (∀ M34 : MzM, M34 = mz_si M33 (16, x) 7 (0 : Int32) → K M34))))))
def wp_Way_end_62 (x : Nat)  (K : MzM → Prop)  (M : MzM) : Prop := ((mz_r M (16, x) 4 = none → False) ∧ (∀ n35 : Nat, n35 < 16 → mz_r M (16, x) 4 = some (3, n35) → (∀ M38 : MzM, M38 = mz_si M (3, n35) 5 (0 : Int32) → wp_Way_end_70 x  K  M38)) ∧ (mz_r M (16, x) 4 = none ∨ ∃ n35 : Nat, n35 < 16 ∧ mz_r M (16, x) 4 = some (3, n35)))
def wp_Way_end_28 (x : Nat)  (K : MzM → Prop)  (M : MzM) : Prop := ((mz_r M (16, x) 4 = none → wp_Way_end_70 x  K  M) ∧ (∀ n13 : Nat, n13 < 16 → mz_r M (16, x) 4 = some (3, n13) → ((¬ (mz_i M (16, x) 1) = (2 : Int32) → wp_Way_end_70 x  K  M) ∧ ((mz_i M (16, x) 1) = (2 : Int32) → (((mz_i M (16, x) 3) = 0 → wp_Way_end_62 x  K  M) ∧ (¬ (mz_i M (16, x) 3) = 0 → ((mz_r M (16, x) 4 = none → False) ∧ (∀ n16 : Nat, n16 < 16 → mz_r M (16, x) 4 = some (3, n16) → wp_Row_add n16 (13 : Int32) M (fun M19 => wp_Way_end_62 x  K  M19)) ∧ (mz_r M (16, x) 4 = none ∨ ∃ n16 : Nat, n16 < 16 ∧ mz_r M (16, x) 4 = some (3, n16)))))))) ∧ (mz_r M (16, x) 4 = none ∨ ∃ n13 : Nat, n13 < 16 ∧ mz_r M (16, x) 4 = some (3, n13)))
def wp_Way_end (x : Nat)  (M : MzM) (K : MzM → Prop) : Prop := ((mz_r M (16, x) 4 = none → wp_Way_end_28 x  K  M) ∧ (∀ n1 : Nat, n1 < 16 → mz_r M (16, x) 4 = some (3, n1) → ((¬ (mz_i M (16, x) 1) = (1 : Int32) → wp_Way_end_28 x  K  M) ∧ ((mz_i M (16, x) 1) = (1 : Int32) → ((mz_r M (16, x) 4 = none → False) ∧ (∀ n4 : Nat, n4 < 16 → mz_r M (16, x) 4 = some (3, n4) → (∀ M7 : MzM, M7 = mz_si M (3, n4) 4 ((mz_i M (3, n4) 4) - (1 : Int32)) → wp_Way_end_28 x  K  M7)) ∧ (mz_r M (16, x) 4 = none ∨ ∃ n4 : Nat, n4 < 16 ∧ mz_r M (16, x) 4 = some (3, n4)))))) ∧ (mz_r M (16, x) 4 = none ∨ ∃ n1 : Nat, n1 < 16 ∧ mz_r M (16, x) 4 = some (3, n1)))
theorem tm_Way_end_70 {G : MzG} {B : MzB} {d : Nat} {K : MzM → Prop} (hF : mzLive false B) {x : Nat} (hx : x < 2)    (M : MzM) (hL : mzLnk false M) (h : wp_Way_end_70 x  K  M) : MzS G B (d + 1) mm_Way_end M (0, 0) (mzK0 false B K) 70 [(0, .ref (mz_ad B (16, x)))] [] := by
  unfold wp_Way_end_70 at h
  exact (mz_aload_n d_Way_end_70 rfl (mz_iconst (0 : Int32) d_Way_end_71 (by decide) (mz_putI (k := 0) cl_8 d_Way_end_72 (by decide) wf_Way_67 rfl rfl rfl rfl (hF 16 x rfl hx) rfl (let M28 : MzM := mz_si M (16, x) 0 (0 : Int32); (mz_aload_n d_Way_end_75 rfl (mz_iconst (0 : Int32) d_Way_end_76 (by decide) (mz_putI (k := 1) cl_8 d_Way_end_77 (by decide) wf_Way_19 rfl rfl rfl rfl (hF 16 x rfl hx) rfl (let M29 : MzM := mz_si M28 (16, x) 1 (0 : Int32); (mz_aload_n d_Way_end_80 rfl (mz_iconst (0 : Int32) d_Way_end_81 (by decide) (mz_putI (k := 3) cl_8 d_Way_end_82 (by decide) wf_Way_58 rfl rfl rfl rfl (hF 16 x rfl hx) rfl (let M30 : MzM := mz_si M29 (16, x) 3 (0 : Int32); (mz_aload_n d_Way_end_85 rfl (mz_null d_Way_end_86 (mz_putR (k := 4) (x := none) cl_8 d_Way_end_87 (by decide) wf_Way_22 rfl rfl rfl rfl (hF 16 x rfl hx) rfl (have hL32 := mzLnk.sr (k := 4) (x := none) (i := (16, x)) hL rfl; let M31 : MzM := mz_sr M30 (16, x) 4 none; (mz_aload_n d_Way_end_90 rfl (mz_iconst (0 : Int32) d_Way_end_91 (by decide) (mz_putI (k := 6) cl_8 d_Way_end_92 (by decide) wf_Way_64 rfl rfl rfl rfl (hF 16 x rfl hx) rfl (let M33 : MzM := mz_si M31 (16, x) 6 (0 : Int32); (mz_aload_n d_Way_end_95 rfl (mz_iconst (0 : Int32) d_Way_end_96 (by decide) (mz_putI (k := 7) cl_8 d_Way_end_97 (by decide) wf_Way_15 rfl rfl rfl rfl (hF 16 x rfl hx) rfl (let M34 : MzM := mz_si M33 (16, x) 7 (0 : Int32); (mz_vret d_Way_end_100 rfl ⟨rfl, hL32, rfl, ((((((h M28 rfl) M29 rfl) M30 rfl) M31 rfl) M33 rfl) M34 rfl)⟩)))))))))))))))))))))))))
theorem tm_Way_end_62 {G : MzG} {B : MzB} {d : Nat} {K : MzM → Prop} (hF : mzLive false B) {x : Nat} (hx : x < 2)    (M : MzM) (hL : mzLnk false M) (h : wp_Way_end_62 x  K  M) : MzS G B (d + 1) mm_Way_end M (0, 0) (mzK0 false B K) 62 [(0, .ref (mz_ad B (16, x)))] [] := by
  unfold wp_Way_end_62 at h
  exact (mz_aload_n d_Way_end_62 rfl (match h with | ⟨ha39, _, Or.inl he37⟩ => mz_getO (k := 4) cl_8 d_Way_end_63 (by decide) wf_Way_22 rfl (hF 16 x rfl hx) rfl he37 (mz_iconst (0 : Int32) d_Way_end_66 (by decide) (False.elim (ha39 he37))) | ⟨_, hb40, Or.inr ⟨n35, hn36, he37⟩⟩ => mz_getR (k := 4) cl_8 d_Way_end_63 (by decide) wf_Way_22 rfl (hF 16 x rfl hx) rfl he37 (mz_iconst (0 : Int32) d_Way_end_66 (by decide) (mz_putIN (k := 5) cl_2 d_Way_end_67 (by decide) wf_Way_52 rfl rfl rfl rfl (hF 3 n35 rfl hn36) rfl (let M38 : MzM := mz_si M (3, n35) 5 (0 : Int32); (MzS.loc [(0, .ref (mz_ad B (16, x)))] ⟨rfl, trivial⟩ (tm_Way_end_70 hF hx   M38 hL ((hb40 n35 hn36 he37) M38 rfl))))))))
theorem tm_Way_end_28 {G : MzG} {B : MzB} {d : Nat} {K : MzM → Prop} (hF : mzLive false B) {x : Nat} (hx : x < 2)    (M : MzM) (hL : mzLnk false M) (h : wp_Way_end_28 x  K  M) : MzS G B (d + 1) mm_Way_end M (0, 0) (mzK0 false B K) 28 [(0, .ref (mz_ad B (16, x)))] [] := by
  unfold wp_Way_end_28 at h
  exact (mz_aload_n d_Way_end_28 rfl (match h with | ⟨ha26, _, Or.inl he15⟩ => mz_getO (k := 4) cl_8 d_Way_end_29 (by decide) wf_Way_22 rfl (hF 16 x rfl hx) rfl he15 (mz_ifnullN 70 d_Way_end_32 rfl (MzS.loc [(0, .ref (mz_ad B (16, x)))] ⟨rfl, trivial⟩ (tm_Way_end_70 hF hx   M hL (ha26 he15)))) | ⟨_, hb27, Or.inr ⟨n13, hn14, he15⟩⟩ => mz_getR (k := 4) cl_8 d_Way_end_29 (by decide) wf_Way_22 rfl (hF 16 x rfl hx) rfl he15 (mz_ifnull d_Way_end_32 (mz_aload_n d_Way_end_35 rfl (mz_getI (k := 1) cl_8 d_Way_end_36 (by decide) wf_Way_19 rfl (hF 16 x rfl hx) rfl (mz_iconst (2 : Int32) d_Way_end_39 (by decide) (mz_icmp_ne 70 d_Way_end_40 rfl (fun hc25 => (MzS.loc [(0, .ref (mz_ad B (16, x)))] ⟨rfl, trivial⟩ (tm_Way_end_70 hF hx   M hL ((hb27 n13 hn14 he15).1 hc25)))) (fun hc25 => (mz_aload_n d_Way_end_43 rfl (mz_getI (k := 3) cl_8 d_Way_end_44 (by decide) wf_Way_58 rfl (hF 16 x rfl hx) rfl (mz_if_eq 62 d_Way_end_47 rfl (fun hc24 => (MzS.loc [(0, .ref (mz_ad B (16, x)))] ⟨rfl, trivial⟩ (tm_Way_end_62 hF hx   M hL (((hb27 n13 hn14 he15).2 hc25).1 hc24)))) (fun hc24 => (mz_aload_n d_Way_end_50 rfl (match (((hb27 n13 hn14 he15).2 hc25).2 hc24) with | ⟨ha22, _, Or.inl he18⟩ => mz_getO (k := 4) cl_8 d_Way_end_51 (by decide) wf_Way_22 rfl (hF 16 x rfl hx) rfl he18 (False.elim (ha22 he18)) | ⟨_, hb23, Or.inr ⟨n16, hn17, he18⟩⟩ => mz_getR (k := 4) cl_8 d_Way_end_51 (by decide) wf_Way_22 rfl (hF 16 x rfl hx) rfl he18 (mz_getRN (k := 0) (a := (4, n16)) cl_2 d_Way_end_54 (by decide) wf_Way_31 rfl (hF 3 n16 rfl hn17) rfl (hL (3, n16) 0 (4, n16) rfl rfl hn17) (mz_bipush (13 : Int32) d_Way_end_57 (by decide) (mz_callV (As := [.int (13 : Int32)]) (st := []) (hF 4 n16 rfl hn17) rfl (mzClOf cl_3) 0 0 d_Way_end_59 cs_Row_add wl_Way_61 wi_Row_add wse_Row_add (Nat.le_of_ble_eq_true rfl) (Nat.zero_le _) (Nat.zero_le _) (MzC.mono (tm_Row_add (d := d) hF hn17 hL (hb23 n16 hn17 he18)) (fun r9 B9 M19 hq21 => by obtain ⟨rfl, hL20, rfl, hq21⟩ := hq21; exact ⟨none, rfl, (MzS.loc [(0, .ref (mz_ad B (16, x)))] ⟨rfl, trivial⟩ (tm_Way_end_62 hF hx   M19 hL20 hq21))⟩)))))))))))))))))))
theorem tm_Way_end {G : MzG} {B : MzB} {d : Nat} {K : MzM → Prop} (hF : mzLive false B) {x : Nat} (hx : x < 2)  {M : MzM} (hL : mzLnk false M) (h : wp_Way_end x  M K) : MzC G B (d + 1) mm_Way_end [.ref (mz_ad B (16, x))] M (0, 0) (mzK0 false B K) := by
  unfold wp_Way_end at h
  exact MzC.of rfl (Nat.le_of_ble_eq_true rfl) (show MzS G B (d + 1) mm_Way_end M (0, 0) (mzK0 false B K) 0 [(0, .ref (mz_ad B (16, x)))] [] from (mz_aload_n d_Way_end_0 rfl (match h with | ⟨ha11, _, Or.inl he3⟩ => mz_getO (k := 4) cl_8 d_Way_end_1 (by decide) wf_Way_22 rfl (hF 16 x rfl hx) rfl he3 (mz_ifnullN 28 d_Way_end_4 rfl (MzS.loc [(0, .ref (mz_ad B (16, x)))] ⟨rfl, trivial⟩ (tm_Way_end_28 hF hx   M hL (ha11 he3)))) | ⟨_, hb12, Or.inr ⟨n1, hn2, he3⟩⟩ => mz_getR (k := 4) cl_8 d_Way_end_1 (by decide) wf_Way_22 rfl (hF 16 x rfl hx) rfl he3 (mz_ifnull d_Way_end_4 (mz_aload_n d_Way_end_7 rfl (mz_getI (k := 1) cl_8 d_Way_end_8 (by decide) wf_Way_19 rfl (hF 16 x rfl hx) rfl (mz_iconst (1 : Int32) d_Way_end_11 (by decide) (mz_icmp_ne 28 d_Way_end_12 rfl (fun hc10 => (MzS.loc [(0, .ref (mz_ad B (16, x)))] ⟨rfl, trivial⟩ (tm_Way_end_28 hF hx   M hL ((hb12 n1 hn2 he3).1 hc10)))) (fun hc10 => (mz_aload_n d_Way_end_15 rfl (match ((hb12 n1 hn2 he3).2 hc10) with | ⟨ha8, _, Or.inl he6⟩ => mz_getO (k := 4) cl_8 d_Way_end_16 (by decide) wf_Way_22 rfl (hF 16 x rfl hx) rfl he6 (mz_dup d_Way_end_19 rfl (False.elim (ha8 he6))) | ⟨_, hb9, Or.inr ⟨n4, hn5, he6⟩⟩ => mz_getR (k := 4) cl_8 d_Way_end_16 (by decide) wf_Way_22 rfl (hF 16 x rfl hx) rfl he6 (mz_dup d_Way_end_19 rfl (mz_getIN (k := 4) cl_2 d_Way_end_20 (by decide) wf_Way_26 rfl (hF 3 n4 rfl hn5) rfl (mz_iconst (1 : Int32) d_Way_end_23 (by decide) (mz_isub d_Way_end_24 (mz_putIN (k := 4) cl_2 d_Way_end_25 (by decide) wf_Way_26 rfl rfl rfl rfl (hF 3 n4 rfl hn5) rfl (let M7 : MzM := mz_si M (3, n4) 4 ((mz_i M (3, n4) 4) - (1 : Int32)); (MzS.loc [(0, .ref (mz_ad B (16, x)))] ⟨rfl, trivial⟩ (tm_Way_end_28 hF hx   M7 hL ((hb9 n4 hn5 he6) M7 rfl))))))))))))))))))))
def mm_Lin_startLine : MzT := (⟨"ParcelLine$LineReader", "startLine", "()V"⟩, prog_7_method_3_code, 1, (Option.none : Option Jvm.ClassFile.FieldType))
theorem cs_Lin_startLine {mm : MzT} : mzCall mm mm_Lin_startLine 0 := ⟨wn_Lin, wco_Lin_startLine, by decide +kernel, by decide⟩
theorem d_Lin_startLine_0 : decode mm_Lin_startLine.2.1 0 = .ok (.aload_n 0, 1) := by decide +kernel
theorem d_Lin_startLine_1 : decode mm_Lin_startLine.2.1 1 = .ok (.iconst 0, 1) := by decide +kernel
theorem d_Lin_startLine_2 : decode mm_Lin_startLine.2.1 2 = .ok (.putfield 30, 3) := by decide +kernel
theorem d_Lin_startLine_5 : decode mm_Lin_startLine.2.1 5 = .ok (.aload_n 0, 1) := by decide +kernel
theorem d_Lin_startLine_6 : decode mm_Lin_startLine.2.1 6 = .ok (.iconst 0, 1) := by decide +kernel
theorem d_Lin_startLine_7 : decode mm_Lin_startLine.2.1 7 = .ok (.putfield 33, 3) := by decide +kernel
theorem d_Lin_startLine_10 : decode mm_Lin_startLine.2.1 10 = .ok (.return_, 1) := by decide +kernel
def wp_Lin_startLine (x : Nat)  (M : MzM) (K : MzM → Prop) : Prop := (∀ M1 : MzM, M1 = mz_si M (12, x) 2 (0 : Int32) → (∀ M2 : MzM, M2 = mz_si M1 (12, x) 3 (0 : Int32) → K M2))
theorem tm_Lin_startLine {G : MzG} {B : MzB} {d : Nat} {K : MzM → Prop} (hF : mzLive false B) {x : Nat} (hx : x < 2)  {M : MzM} (hL : mzLnk false M) (h : wp_Lin_startLine x  M K) : MzC G B d mm_Lin_startLine [.ref (mz_ad B (12, x))] M (0, 0) (mzK0 false B K) := by
  unfold wp_Lin_startLine at h
  exact MzC.of rfl (Nat.le_of_ble_eq_true rfl) (show MzS G B d mm_Lin_startLine M (0, 0) (mzK0 false B K) 0 [(0, .ref (mz_ad B (12, x)))] [] from (mz_aload_n d_Lin_startLine_0 rfl (mz_iconst (0 : Int32) d_Lin_startLine_1 (by decide) (mz_putI (k := 2) cl_6 d_Lin_startLine_2 (by decide) wf_Lin_30 rfl rfl rfl rfl (hF 12 x rfl hx) rfl (let M1 : MzM := mz_si M (12, x) 2 (0 : Int32); (mz_aload_n d_Lin_startLine_5 rfl (mz_iconst (0 : Int32) d_Lin_startLine_6 (by decide) (mz_putI (k := 3) cl_6 d_Lin_startLine_7 (by decide) wf_Lin_33 rfl rfl rfl rfl (hF 12 x rfl hx) rfl (let M2 : MzM := mz_si M1 (12, x) 3 (0 : Int32); (mz_vret d_Lin_startLine_10 rfl ⟨rfl, hL, rfl, ((h M1 rfl) M2 rfl)⟩))))))))))
def mm_Lin_startOver : MzT := (⟨"ParcelLine$LineReader", "startOver", "()V"⟩, prog_7_method_2_code, 1, (Option.none : Option Jvm.ClassFile.FieldType))
theorem cs_Lin_startOver {mm : MzT} : mzCall mm mm_Lin_startOver 0 := ⟨wn_Lin, wco_Lin_startOver, by decide +kernel, by decide⟩
theorem d_Lin_startOver_0 : decode mm_Lin_startOver.2.1 0 = .ok (.aload_n 0, 1) := by decide +kernel
theorem d_Lin_startOver_1 : decode mm_Lin_startOver.2.1 1 = .ok (.iconst 0, 1) := by decide +kernel
theorem d_Lin_startOver_2 : decode mm_Lin_startOver.2.1 2 = .ok (.putfield 19, 3) := by decide +kernel
theorem d_Lin_startOver_5 : decode mm_Lin_startOver.2.1 5 = .ok (.aload_n 0, 1) := by decide +kernel
theorem d_Lin_startOver_6 : decode mm_Lin_startOver.2.1 6 = .ok (.iconst 0, 1) := by decide +kernel
theorem d_Lin_startOver_7 : decode mm_Lin_startOver.2.1 7 = .ok (.putfield 23, 3) := by decide +kernel
theorem d_Lin_startOver_10 : decode mm_Lin_startOver.2.1 10 = .ok (.aload_n 0, 1) := by decide +kernel
theorem d_Lin_startOver_11 : decode mm_Lin_startOver.2.1 11 = .ok (.invokevirtual 27, 3) := by decide +kernel
theorem d_Lin_startOver_14 : decode mm_Lin_startOver.2.1 14 = .ok (.return_, 1) := by decide +kernel
def wp_Lin_startOver (x : Nat)  (M : MzM) (K : MzM → Prop) : Prop := (∀ M1 : MzM, M1 = mz_si M (12, x) 4 (0 : Int32) → (∀ M2 : MzM, M2 = mz_si M1 (12, x) 5 (0 : Int32) → wp_Lin_startLine x  M2 (fun M3 => K M3)))
theorem tm_Lin_startOver {G : MzG} {B : MzB} {d : Nat} {K : MzM → Prop} (hF : mzLive false B) {x : Nat} (hx : x < 2)  {M : MzM} (hL : mzLnk false M) (h : wp_Lin_startOver x  M K) : MzC G B (d + 1) mm_Lin_startOver [.ref (mz_ad B (12, x))] M (0, 0) (mzK0 false B K) := by
  unfold wp_Lin_startOver at h
  exact MzC.of rfl (Nat.le_of_ble_eq_true rfl) (show MzS G B (d + 1) mm_Lin_startOver M (0, 0) (mzK0 false B K) 0 [(0, .ref (mz_ad B (12, x)))] [] from (mz_aload_n d_Lin_startOver_0 rfl (mz_iconst (0 : Int32) d_Lin_startOver_1 (by decide) (mz_putI (k := 4) cl_6 d_Lin_startOver_2 (by decide) wf_Lin_19 rfl rfl rfl rfl (hF 12 x rfl hx) rfl (let M1 : MzM := mz_si M (12, x) 4 (0 : Int32); (mz_aload_n d_Lin_startOver_5 rfl (mz_iconst (0 : Int32) d_Lin_startOver_6 (by decide) (mz_putI (k := 5) cl_6 d_Lin_startOver_7 (by decide) wf_Lin_23 rfl rfl rfl rfl (hF 12 x rfl hx) rfl (let M2 : MzM := mz_si M1 (12, x) 5 (0 : Int32); (mz_aload_n d_Lin_startOver_10 rfl (mz_callV (As := []) (st := []) (hF 12 x rfl hx) rfl (mzClOf cl_6) 0 0 d_Lin_startOver_11 cs_Lin_startLine wl_Lin_27 wi_Lin_startLine wse_Lin_startLine (Nat.le_of_ble_eq_true rfl) (Nat.zero_le _) (Nat.zero_le _) (MzC.mono (tm_Lin_startLine (d := d) hF hx hL ((h M1 rfl) M2 rfl)) (fun r9 B9 M3 hq5 => by obtain ⟨rfl, hL4, rfl, hq5⟩ := hq5; exact ⟨none, rfl, (mz_vret d_Lin_startOver_14 rfl ⟨rfl, hL4, rfl, hq5⟩)⟩)))))))))))))
def mm_Ses_startOver : MzT := (⟨"ParcelLine$Session", "startOver", "()V"⟩, prog_11_method_3_code, 1, (Option.none : Option Jvm.ClassFile.FieldType))
theorem cs_Ses_startOver {mm : MzT} : mzCall mm mm_Ses_startOver 0 := ⟨wn_Ses, wco_Ses_startOver, by decide +kernel, by decide⟩
theorem d_Ses_startOver_0 : decode mm_Ses_startOver.2.1 0 = .ok (.aload_n 0, 1) := by decide +kernel
theorem d_Ses_startOver_1 : decode mm_Ses_startOver.2.1 1 = .ok (.getfield 45, 3) := by decide +kernel
theorem d_Ses_startOver_4 : decode mm_Ses_startOver.2.1 4 = .ok (.invokevirtual 121, 3) := by decide +kernel
theorem d_Ses_startOver_7 : decode mm_Ses_startOver.2.1 7 = .ok (.aload_n 0, 1) := by decide +kernel
theorem d_Ses_startOver_8 : decode mm_Ses_startOver.2.1 8 = .ok (.invokevirtual 124, 3) := by decide +kernel
theorem d_Ses_startOver_11 : decode mm_Ses_startOver.2.1 11 = .ok (.aload_n 0, 1) := by decide +kernel
theorem d_Ses_startOver_12 : decode mm_Ses_startOver.2.1 12 = .ok (.iconst 0, 1) := by decide +kernel
theorem d_Ses_startOver_13 : decode mm_Ses_startOver.2.1 13 = .ok (.putfield 127, 3) := by decide +kernel
theorem d_Ses_startOver_16 : decode mm_Ses_startOver.2.1 16 = .ok (.aload_n 0, 1) := by decide +kernel
theorem d_Ses_startOver_17 : decode mm_Ses_startOver.2.1 17 = .ok (.iconst 0, 1) := by decide +kernel
theorem d_Ses_startOver_18 : decode mm_Ses_startOver.2.1 18 = .ok (.putfield 131, 3) := by decide +kernel
theorem d_Ses_startOver_21 : decode mm_Ses_startOver.2.1 21 = .ok (.aload_n 0, 1) := by decide +kernel
theorem d_Ses_startOver_22 : decode mm_Ses_startOver.2.1 22 = .ok (.iconst (-1), 1) := by decide +kernel
theorem d_Ses_startOver_23 : decode mm_Ses_startOver.2.1 23 = .ok (.putfield 53, 3) := by decide +kernel
theorem d_Ses_startOver_26 : decode mm_Ses_startOver.2.1 26 = .ok (.aload_n 0, 1) := by decide +kernel
theorem d_Ses_startOver_27 : decode mm_Ses_startOver.2.1 27 = .ok (.iconst 0, 1) := by decide +kernel
theorem d_Ses_startOver_28 : decode mm_Ses_startOver.2.1 28 = .ok (.putfield 134, 3) := by decide +kernel
theorem d_Ses_startOver_31 : decode mm_Ses_startOver.2.1 31 = .ok (.aload_n 0, 1) := by decide +kernel
theorem d_Ses_startOver_32 : decode mm_Ses_startOver.2.1 32 = .ok (.getfield 31, 3) := by decide +kernel
theorem d_Ses_startOver_35 : decode mm_Ses_startOver.2.1 35 = .ok (.invokevirtual 137, 3) := by decide +kernel
theorem d_Ses_startOver_38 : decode mm_Ses_startOver.2.1 38 = .ok (.return_, 1) := by decide +kernel
def wp_Ses_startOver (x : Nat)  (M : MzM) (K : MzM → Prop) : Prop := wp_Way_end x  M (fun M1 => wp_Ses_logOut x  M1 (fun M4 => (∀ M7 : MzM, M7 = mz_si M4 (8, x) 8 (0 : Int32) → (∀ M8 : MzM, M8 = mz_si M7 (8, x) 9 (0 : Int32) → (∀ M9 : MzM, M9 = mz_si M8 (8, x) 10 (-1 : Int32) → (∀ M10 : MzM, M10 = mz_si M9 (8, x) 11 (0 : Int32) → wp_Lin_startOver x  M10 (fun M11 => K M11)))))))
theorem tm_Ses_startOver {G : MzG} {B : MzB} {d : Nat} {K : MzM → Prop} (hF : mzLive false B) {x : Nat} (hx : x < 2)  {M : MzM} (hL : mzLnk false M) (h : wp_Ses_startOver x  M K) : MzC G B (d + 2) mm_Ses_startOver [.ref (mz_ad B (8, x))] M (0, 0) (mzK0 false B K) := by
  unfold wp_Ses_startOver at h
  exact MzC.of rfl (Nat.le_of_ble_eq_true rfl) (show MzS G B (d + 2) mm_Ses_startOver M (0, 0) (mzK0 false B K) 0 [(0, .ref (mz_ad B (8, x)))] [] from (mz_aload_n d_Ses_startOver_0 rfl (mz_getR (k := 5) (a := (16, x)) cl_4 d_Ses_startOver_1 (by decide) wf_Ses_45 rfl (hF 8 x rfl hx) rfl (hL (8, x) 5 (16, x) rfl rfl hx) (mz_callV (As := []) (st := []) (hF 16 x rfl hx) rfl (mzClOf cl_8) 0 0 d_Ses_startOver_4 cs_Way_end wl_Ses_121 wi_Way_end wse_Way_end (Nat.le_of_ble_eq_true rfl) (Nat.zero_le _) (Nat.zero_le _) (MzC.mono (tm_Way_end (d := d) hF hx hL h) (fun r9 B9 M1 hq3 => by obtain ⟨rfl, hL2, rfl, hq3⟩ := hq3; exact ⟨none, rfl, (mz_aload_n d_Ses_startOver_7 rfl (mz_callV (As := []) (st := []) (hF 8 x rfl hx) rfl (mzClOf cl_4) 0 0 d_Ses_startOver_8 cs_Ses_logOut wl_Ses_124 wi_Ses_logOut wse_Ses_logOut (Nat.le_of_ble_eq_true rfl) (Nat.zero_le _) (Nat.zero_le _) (MzC.mono (tm_Ses_logOut (d := (d + 1)) hF hx hL2 hq3) (fun r9 B9 M4 hq6 => by obtain ⟨rfl, hL5, rfl, hq6⟩ := hq6; exact ⟨none, rfl, (mz_aload_n d_Ses_startOver_11 rfl (mz_iconst (0 : Int32) d_Ses_startOver_12 (by decide) (mz_putI (k := 8) cl_4 d_Ses_startOver_13 (by decide) wf_Ses_127 rfl rfl rfl rfl (hF 8 x rfl hx) rfl (let M7 : MzM := mz_si M4 (8, x) 8 (0 : Int32); (mz_aload_n d_Ses_startOver_16 rfl (mz_iconst (0 : Int32) d_Ses_startOver_17 (by decide) (mz_putI (k := 9) cl_4 d_Ses_startOver_18 (by decide) wf_Ses_131 rfl rfl rfl rfl (hF 8 x rfl hx) rfl (let M8 : MzM := mz_si M7 (8, x) 9 (0 : Int32); (mz_aload_n d_Ses_startOver_21 rfl (mz_iconst (-1 : Int32) d_Ses_startOver_22 (by decide) (mz_putI (k := 10) cl_4 d_Ses_startOver_23 (by decide) wf_Ses_53 rfl rfl rfl rfl (hF 8 x rfl hx) rfl (let M9 : MzM := mz_si M8 (8, x) 10 (-1 : Int32); (mz_aload_n d_Ses_startOver_26 rfl (mz_iconst (0 : Int32) d_Ses_startOver_27 (by decide) (mz_putI (k := 11) cl_4 d_Ses_startOver_28 (by decide) wf_Ses_134 rfl rfl rfl rfl (hF 8 x rfl hx) rfl (let M10 : MzM := mz_si M9 (8, x) 11 (0 : Int32); (mz_aload_n d_Ses_startOver_31 rfl (mz_getR (k := 3) (a := (12, x)) cl_4 d_Ses_startOver_32 (by decide) wf_Ses_31 rfl (hF 8 x rfl hx) rfl (hL5 (8, x) 3 (12, x) rfl rfl hx) (mz_callV (As := []) (st := []) (hF 12 x rfl hx) rfl (mzClOf cl_6) 0 0 d_Ses_startOver_35 cs_Lin_startOver wl_Ses_137 wi_Lin_startOver wse_Lin_startOver (Nat.le_of_ble_eq_true rfl) (Nat.zero_le _) (Nat.zero_le _) (MzC.mono (tm_Lin_startOver (d := d) hF hx hL5 ((((hq6 M7 rfl) M8 rfl) M9 rfl) M10 rfl)) (fun r9 B9 M11 hq13 => by obtain ⟨rfl, hL12, rfl, hq13⟩ := hq13; exact ⟨none, rfl, (mz_vret d_Ses_startOver_38 rfl ⟨rfl, hL12, rfl, hq13⟩)⟩)))))))))))))))))))))⟩))))⟩))))))
def mm_Store_parentOf : MzT := (⟨"ParcelLine$Store", "parentOf", "(I)I"⟩, prog_12_method_5_code, 2, (Option.some Jvm.ClassFile.FieldType.int))
theorem cs_Store_parentOf {mm : MzT} : mzCall mm mm_Store_parentOf 1 := ⟨wn_Store, wco_Store_parentOf, by decide +kernel, by decide⟩
theorem d_Store_parentOf_0 : decode mm_Store_parentOf.2.1 0 = .ok (.aload_n 0, 1) := by decide +kernel
theorem d_Store_parentOf_1 : decode mm_Store_parentOf.2.1 1 = .ok (.iload_n 1, 1) := by decide +kernel
theorem d_Store_parentOf_2 : decode mm_Store_parentOf.2.1 2 = .ok (.invokevirtual 29, 3) := by decide +kernel
theorem d_Store_parentOf_5 : decode mm_Store_parentOf.2.1 5 = .ok (.ifCond .eq 15, 3) := by decide +kernel
theorem d_Store_parentOf_8 : decode mm_Store_parentOf.2.1 8 = .ok (.aload_n 0, 1) := by decide +kernel
theorem d_Store_parentOf_9 : decode mm_Store_parentOf.2.1 9 = .ok (.getfield 11, 3) := by decide +kernel
theorem d_Store_parentOf_12 : decode mm_Store_parentOf.2.1 12 = .ok (.iload_n 1, 1) := by decide +kernel
theorem d_Store_parentOf_13 : decode mm_Store_parentOf.2.1 13 = .ok (.aaload, 1) := by decide +kernel
theorem d_Store_parentOf_14 : decode mm_Store_parentOf.2.1 14 = .ok (.getfield 22, 3) := by decide +kernel
theorem d_Store_parentOf_17 : decode mm_Store_parentOf.2.1 17 = .ok (.goto 4, 3) := by decide +kernel
theorem d_Store_parentOf_20 : decode mm_Store_parentOf.2.1 20 = .ok (.iconst 0, 1) := by decide +kernel
theorem d_Store_parentOf_21 : decode mm_Store_parentOf.2.1 21 = .ok (.ireturn, 1) := by decide +kernel
def wp_Store_parentOf  (a1 : Int32) (M : MzM) (K : Int32 → MzM → Prop) : Prop := wp_Store_isThere  a1 M (fun v4 M1 => ((v4 = 0 → K (0 : Int32) M1) ∧ (¬ v4 = 0 → (∃ j5 : Nat, a1.toInt = (j5 : Int) ∧ j5 < 16 ∧ K (mz_i M1 (3, j5) 2) M1))))
theorem tm_Store_parentOf {G : MzG} {B : MzB} {d : Nat} {K : Int32 → MzM → Prop} (hF : mzLive false B)   {a1 : Int32} {M : MzM} (hL : mzLnk false M) (h : wp_Store_parentOf  a1 M K) : MzC G B (d + 1) mm_Store_parentOf [.ref (mz_ad B (1, 0)), .int a1] M (0, 0) (mzK1 false B K) := by
  unfold wp_Store_parentOf at h
  exact MzC.of rfl (Nat.le_of_ble_eq_true rfl) (show MzS G B (d + 1) mm_Store_parentOf M (0, 0) (mzK1 false B K) 0 [(0, .ref (mz_ad B (1, 0))), (1, .int a1)] [] from (mz_aload_n d_Store_parentOf_0 rfl (mz_iload_n d_Store_parentOf_1 rfl (mz_callV (As := [.int a1]) (st := []) (hF 1 0 rfl (by decide)) rfl (mzClOf cl_1) 0 0 d_Store_parentOf_2 cs_Store_isThere wl_Store_29 wi_Store_isThere wse_Store_isThere (Nat.le_of_ble_eq_true rfl) (Nat.zero_le _) (Nat.zero_le _) (MzC.mono (tm_Store_isThere (d := d) hF  hL h) (fun r9 B9 M1 hq3 => by obtain ⟨rfl, hL2, v4, rfl, hq3⟩ := hq3; exact ⟨_, rfl, (mz_if_eq 20 d_Store_parentOf_5 rfl (fun hc9 => (mz_iconst (0 : Int32) d_Store_parentOf_20 (by decide) (mz_iret .int d_Store_parentOf_21 rfl rfl ⟨rfl, hL2, _, rfl, (hq3.1 hc9)⟩))) (fun hc9 => (mz_aload_n d_Store_parentOf_8 rfl (mz_getR (k := 0) (a := (2, 0)) cl_1 d_Store_parentOf_9 (by decide) wf_Store_11 rfl (hF 1 0 rfl (by decide)) rfl (hL2 (1, 0) 0 (2, 0) rfl rfl (by decide)) (mz_iload_n d_Store_parentOf_12 rfl (match (hq3.2 hc9) with | ⟨j5, h6, h7, h8⟩ => mz_aald (a := (3, j5)) j5 d_Store_parentOf_13 (hF 2 0 rfl (by decide)) rfl h6 h7 (hL2 (2, 0) j5 (3, j5) rfl (mzLk_2 h7) (by decide)) (mz_getIN (k := 2) cl_2 d_Store_parentOf_14 (by decide) wf_Store_22 rfl (hF 3 j5 rfl h7) rfl (mz_goto 21 d_Store_parentOf_17 rfl (mz_iret .int d_Store_parentOf_21 rfl rfl ⟨rfl, hL2, _, rfl, h8⟩)))))))))⟩))))))
def mm_Way_beginNames : MzT := (⟨"ParcelLine$DataWay", "beginNames", "()V"⟩, prog_6_method_4_code, 1, (Option.none : Option Jvm.ClassFile.FieldType))
theorem cs_Way_beginNames {mm : MzT} : mzCall mm mm_Way_beginNames 0 := ⟨wn_Way, wco_Way_beginNames, by decide +kernel, by decide⟩
theorem d_Way_beginNames_0 : decode mm_Way_beginNames.2.1 0 = .ok (.aload_n 0, 1) := by decide +kernel
theorem d_Way_beginNames_1 : decode mm_Way_beginNames.2.1 1 = .ok (.iconst 1, 1) := by decide +kernel
theorem d_Way_beginNames_2 : decode mm_Way_beginNames.2.1 2 = .ok (.putfield 19, 3) := by decide +kernel
theorem d_Way_beginNames_5 : decode mm_Way_beginNames.2.1 5 = .ok (.return_, 1) := by decide +kernel
def wp_Way_beginNames (x : Nat)  (M : MzM) (K : MzM → Prop) : Prop := (∀ M1 : MzM, M1 = mz_si M (16, x) 1 (1 : Int32) → K M1)
theorem tm_Way_beginNames {G : MzG} {B : MzB} {d : Nat} {K : MzM → Prop} (hF : mzLive false B) {x : Nat} (hx : x < 2)  {M : MzM} (hL : mzLnk false M) (h : wp_Way_beginNames x  M K) : MzC G B d mm_Way_beginNames [.ref (mz_ad B (16, x))] M (0, 0) (mzK0 false B K) := by
  unfold wp_Way_beginNames at h
  exact MzC.of rfl (Nat.le_of_ble_eq_true rfl) (show MzS G B d mm_Way_beginNames M (0, 0) (mzK0 false B K) 0 [(0, .ref (mz_ad B (16, x)))] [] from (mz_aload_n d_Way_beginNames_0 rfl (mz_iconst (1 : Int32) d_Way_beginNames_1 (by decide) (mz_putI (k := 1) cl_8 d_Way_beginNames_2 (by decide) wf_Way_19 rfl rfl rfl rfl (hF 16 x rfl hx) rfl (let M1 : MzM := mz_si M (16, x) 1 (1 : Int32); (mz_vret d_Way_beginNames_5 rfl ⟨rfl, hL, rfl, (h M1 rfl)⟩))))))
def mm_Way_loadName : MzT := (⟨"ParcelLine$DataWay", "loadName", "(I)V"⟩, prog_6_method_5_code, 4, (Option.none : Option Jvm.ClassFile.FieldType))
theorem cs_Way_loadName {mm : MzT} : mzCall mm mm_Way_loadName 1 := ⟨wn_Way, wco_Way_loadName, by decide +kernel, by decide⟩
theorem d_Way_loadName_0 : decode mm_Way_loadName.2.1 0 = .ok (.iload_n 1, 1) := by decide +kernel
theorem d_Way_loadName_1 : decode mm_Way_loadName.2.1 1 = .ok (.istore_n 2, 1) := by decide +kernel
theorem d_Way_loadName_2 : decode mm_Way_loadName.2.1 2 = .ok (.iconst 0, 1) := by decide +kernel
theorem d_Way_loadName_3 : decode mm_Way_loadName.2.1 3 = .ok (.istore_n 3, 1) := by decide +kernel
theorem d_Way_loadName_4 : decode mm_Way_loadName.2.1 4 = .ok (.iload_n 3, 1) := by decide +kernel
theorem d_Way_loadName_5 : decode mm_Way_loadName.2.1 5 = .ok (.iconst 3, 1) := by decide +kernel
theorem d_Way_loadName_6 : decode mm_Way_loadName.2.1 6 = .ok (.if_icmp .ge 28, 3) := by decide +kernel
theorem d_Way_loadName_9 : decode mm_Way_loadName.2.1 9 = .ok (.iload_n 2, 1) := by decide +kernel
theorem d_Way_loadName_10 : decode mm_Way_loadName.2.1 10 = .ok (.ifCond .le 24, 3) := by decide +kernel
theorem d_Way_loadName_13 : decode mm_Way_loadName.2.1 13 = .ok (.aload_n 0, 1) := by decide +kernel
theorem d_Way_loadName_14 : decode mm_Way_loadName.2.1 14 = .ok (.iload_n 2, 1) := by decide +kernel
theorem d_Way_loadName_15 : decode mm_Way_loadName.2.1 15 = .ok (.sipush 128, 3) := by decide +kernel
theorem d_Way_loadName_18 : decode mm_Way_loadName.2.1 18 = .ok (.irem, 1) := by decide +kernel
theorem d_Way_loadName_19 : decode mm_Way_loadName.2.1 19 = .ok (.invokevirtual 44, 3) := by decide +kernel
theorem d_Way_loadName_22 : decode mm_Way_loadName.2.1 22 = .ok (.iload_n 2, 1) := by decide +kernel
theorem d_Way_loadName_23 : decode mm_Way_loadName.2.1 23 = .ok (.sipush 128, 3) := by decide +kernel
theorem d_Way_loadName_26 : decode mm_Way_loadName.2.1 26 = .ok (.idiv, 1) := by decide +kernel
theorem d_Way_loadName_27 : decode mm_Way_loadName.2.1 27 = .ok (.istore_n 2, 1) := by decide +kernel
theorem d_Way_loadName_28 : decode mm_Way_loadName.2.1 28 = .ok (.iinc 3 1, 3) := by decide +kernel
theorem d_Way_loadName_31 : decode mm_Way_loadName.2.1 31 = .ok (.goto (-27), 3) := by decide +kernel
theorem d_Way_loadName_34 : decode mm_Way_loadName.2.1 34 = .ok (.aload_n 0, 1) := by decide +kernel
theorem d_Way_loadName_35 : decode mm_Way_loadName.2.1 35 = .ok (.bipush 13, 2) := by decide +kernel
theorem d_Way_loadName_37 : decode mm_Way_loadName.2.1 37 = .ok (.invokevirtual 44, 3) := by decide +kernel
theorem d_Way_loadName_40 : decode mm_Way_loadName.2.1 40 = .ok (.aload_n 0, 1) := by decide +kernel
theorem d_Way_loadName_41 : decode mm_Way_loadName.2.1 41 = .ok (.bipush 10, 2) := by decide +kernel
theorem d_Way_loadName_43 : decode mm_Way_loadName.2.1 43 = .ok (.invokevirtual 44, 3) := by decide +kernel
theorem d_Way_loadName_46 : decode mm_Way_loadName.2.1 46 = .ok (.return_, 1) := by decide +kernel
def wp_Way_loadName_4 (x : Nat)  (K : MzM → Prop) : Nat → Int32 → Int32 → MzM → Prop
  | 0, _, _, _ => False
  | r0 + 1, y2, y3, M => (((3 : Int32) ≤ y3 → wp_Way_load x (13 : Int32) M (fun M3 => wp_Way_load x (10 : Int32) M3 (fun M6 => K M6))) ∧ (¬ (3 : Int32) ≤ y3 → ((y2 ≤ 0 → wp_Way_load x (13 : Int32) M (fun M9 => wp_Way_load x (10 : Int32) M9 (fun M12 => K M12))) ∧ (¬ y2 ≤ 0 → wp_Way_load x (y2 - y2 / (128 : Int32) * (128 : Int32)) M (fun M15 => (wp_Way_loadName_4 x  K r0) (y2 / (128 : Int32)) (y3 + (1 : Int32)) M15)))))
def wp_Way_loadName (x : Nat) (a1 : Int32) (M : MzM) (K : MzM → Prop) : Prop := (∃ r1 : Nat, wp_Way_loadName_4 x  K r1 a1 (0 : Int32) M)
theorem tm_Way_loadName_4 {G : MzG} {B : MzB} {d : Nat} {K : MzM → Prop} (hF : mzLive false B) {x : Nat} (hx : x < 2)   : ∀ (r0 : Nat) (y2 : Int32) (y3 : Int32) (M : MzM), mzLnk false M → wp_Way_loadName_4 x  K r0 y2 y3 M → MzS G B (d + 1) mm_Way_loadName M (0, 0) (mzK0 false B K) 4 [(0, .ref (mz_ad B (16, x))), (2, .int y2), (3, .int y3)] [] := by
  intro r0
  induction r0 with
  | zero => intro y2 y3 M hL h; exact False.elim h
  | succ r0 hH4 =>
    intro y2 y3 M hL h
    unfold wp_Way_loadName_4 at h
    exact (mz_iload_n d_Way_loadName_4 rfl (mz_iconst (3 : Int32) d_Way_loadName_5 (by decide) (mz_icmp_ge 34 d_Way_loadName_6 rfl (fun hc19 => (mz_aload_n d_Way_loadName_34 rfl (mz_bipush (13 : Int32) d_Way_loadName_35 (by decide) (mz_callV (As := [.int (13 : Int32)]) (st := []) (hF 16 x rfl hx) rfl (mzClOf cl_8) 0 0 d_Way_loadName_37 cs_Way_load wl_Way_44 wi_Way_load wse_Way_load (Nat.le_of_ble_eq_true rfl) (Nat.zero_le _) (Nat.zero_le _) (MzC.mono (tm_Way_load (d := d) hF hx hL (h.1 hc19)) (fun r9 B9 M3 hq5 => by obtain ⟨rfl, hL4, rfl, hq5⟩ := hq5; exact ⟨none, rfl, (mz_aload_n d_Way_loadName_40 rfl (mz_bipush (10 : Int32) d_Way_loadName_41 (by decide) (mz_callV (As := [.int (10 : Int32)]) (st := []) (hF 16 x rfl hx) rfl (mzClOf cl_8) 0 0 d_Way_loadName_43 cs_Way_load wl_Way_44 wi_Way_load wse_Way_load (Nat.le_of_ble_eq_true rfl) (Nat.zero_le _) (Nat.zero_le _) (MzC.mono (tm_Way_load (d := d) hF hx hL4 hq5) (fun r9 B9 M6 hq8 => by obtain ⟨rfl, hL7, rfl, hq8⟩ := hq8; exact ⟨none, rfl, (mz_vret d_Way_loadName_46 rfl ⟨rfl, hL7, rfl, hq8⟩)⟩)))))⟩)))))) (fun hc19 => (mz_iload_n d_Way_loadName_9 rfl (mz_if_le 34 d_Way_loadName_10 rfl (fun hc18 => (mz_aload_n d_Way_loadName_34 rfl (mz_bipush (13 : Int32) d_Way_loadName_35 (by decide) (mz_callV (As := [.int (13 : Int32)]) (st := []) (hF 16 x rfl hx) rfl (mzClOf cl_8) 0 0 d_Way_loadName_37 cs_Way_load wl_Way_44 wi_Way_load wse_Way_load (Nat.le_of_ble_eq_true rfl) (Nat.zero_le _) (Nat.zero_le _) (MzC.mono (tm_Way_load (d := d) hF hx hL ((h.2 hc19).1 hc18)) (fun r9 B9 M9 hq11 => by obtain ⟨rfl, hL10, rfl, hq11⟩ := hq11; exact ⟨none, rfl, (mz_aload_n d_Way_loadName_40 rfl (mz_bipush (10 : Int32) d_Way_loadName_41 (by decide) (mz_callV (As := [.int (10 : Int32)]) (st := []) (hF 16 x rfl hx) rfl (mzClOf cl_8) 0 0 d_Way_loadName_43 cs_Way_load wl_Way_44 wi_Way_load wse_Way_load (Nat.le_of_ble_eq_true rfl) (Nat.zero_le _) (Nat.zero_le _) (MzC.mono (tm_Way_load (d := d) hF hx hL10 hq11) (fun r9 B9 M12 hq14 => by obtain ⟨rfl, hL13, rfl, hq14⟩ := hq14; exact ⟨none, rfl, (mz_vret d_Way_loadName_46 rfl ⟨rfl, hL13, rfl, hq14⟩)⟩)))))⟩)))))) (fun hc18 => (mz_aload_n d_Way_loadName_13 rfl (mz_iload_n d_Way_loadName_14 rfl (mz_sipush (128 : Int32) d_Way_loadName_15 (by decide) (mz_irem d_Way_loadName_18 (by decide) (mz_callV (As := [.int (y2 - y2 / (128 : Int32) * (128 : Int32))]) (st := []) (hF 16 x rfl hx) rfl (mzClOf cl_8) 0 0 d_Way_loadName_19 cs_Way_load wl_Way_44 wi_Way_load wse_Way_load (Nat.le_of_ble_eq_true rfl) (Nat.zero_le _) (Nat.zero_le _) (MzC.mono (tm_Way_load (d := d) hF hx hL ((h.2 hc19).2 hc18)) (fun r9 B9 M15 hq17 => by obtain ⟨rfl, hL16, rfl, hq17⟩ := hq17; exact ⟨none, rfl, (mz_iload_n d_Way_loadName_22 rfl (mz_sipush (128 : Int32) d_Way_loadName_23 (by decide) (mz_idiv d_Way_loadName_26 (by decide) (mz_istore_n d_Way_loadName_27 (by decide) (mz_iinc (y3 + (1 : Int32)) d_Way_loadName_28 rfl (by decide) rfl (mz_goto 4 d_Way_loadName_31 rfl (MzS.loc [(0, .ref (mz_ad B (16, x))), (2, .int (y2 / (128 : Int32))), (3, .int (y3 + (1 : Int32)))] ⟨rfl, rfl, rfl, trivial⟩ (hH4 (y2 / (128 : Int32)) (y3 + (1 : Int32)) M15 hL16 hq17))))))))⟩))))))))))))))
theorem tm_Way_loadName {G : MzG} {B : MzB} {d : Nat} {K : MzM → Prop} (hF : mzLive false B) {x : Nat} (hx : x < 2) {a1 : Int32} {M : MzM} (hL : mzLnk false M) (h : wp_Way_loadName x a1 M K) : MzC G B (d + 1) mm_Way_loadName [.ref (mz_ad B (16, x)), .int a1] M (0, 0) (mzK0 false B K) := by
  unfold wp_Way_loadName at h
  exact MzC.of rfl (Nat.le_of_ble_eq_true rfl) (show MzS G B (d + 1) mm_Way_loadName M (0, 0) (mzK0 false B K) 0 [(0, .ref (mz_ad B (16, x))), (1, .int a1)] [] from (mz_iload_n d_Way_loadName_0 rfl (mz_istore_n d_Way_loadName_1 (by decide) (mz_iconst (0 : Int32) d_Way_loadName_2 (by decide) (mz_istore_n d_Way_loadName_3 (by decide) (MzS.loc [(0, .ref (mz_ad B (16, x))), (2, .int a1), (3, .int (0 : Int32))] ⟨rfl, rfl, rfl, trivial⟩ (match h with | ⟨r1, h2⟩ => tm_Way_loadName_4 hF hx  r1 a1 (0 : Int32) M hL h2)))))))
