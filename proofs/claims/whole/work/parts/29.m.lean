def mm_Mo_retrieve : MzT := (⟨"ParcelLineModel", "retrieve", "(I)V"⟩, prog_14_method_52_code, 6, (Option.none : Option Jvm.ClassFile.FieldType))
theorem cs_Mo_retrieve {mm : MzT} : mzCall mm mm_Mo_retrieve 1 := ⟨wn_Mo, wco_Mo_retrieve, by decide +kernel, by decide⟩
theorem d_Mo_retrieve_0 : decode mm_Mo_retrieve.2.1 0 = .ok (.aload_n 0, 1) := by decide +kernel
theorem d_Mo_retrieve_1 : decode mm_Mo_retrieve.2.1 1 = .ok (.getfield 249, 3) := by decide +kernel
theorem d_Mo_retrieve_4 : decode mm_Mo_retrieve.2.1 4 = .ok (.ifCond .lt 19, 3) := by decide +kernel
theorem d_Mo_retrieve_7 : decode mm_Mo_retrieve.2.1 7 = .ok (.aload_n 0, 1) := by decide +kernel
theorem d_Mo_retrieve_8 : decode mm_Mo_retrieve.2.1 8 = .ok (.getfield 38, 3) := by decide +kernel
theorem d_Mo_retrieve_11 : decode mm_Mo_retrieve.2.1 11 = .ok (.aload_n 0, 1) := by decide +kernel
theorem d_Mo_retrieve_12 : decode mm_Mo_retrieve.2.1 12 = .ok (.getfield 249, 3) := by decide +kernel
theorem d_Mo_retrieve_15 : decode mm_Mo_retrieve.2.1 15 = .ok (.baload, 1) := by decide +kernel
theorem d_Mo_retrieve_16 : decode mm_Mo_retrieve.2.1 16 = .ok (.ifCond .eq 7, 3) := by decide +kernel
theorem d_Mo_retrieve_19 : decode mm_Mo_retrieve.2.1 19 = .ok (.iconst 1, 1) := by decide +kernel
theorem d_Mo_retrieve_20 : decode mm_Mo_retrieve.2.1 20 = .ok (.goto 4, 3) := by decide +kernel
theorem d_Mo_retrieve_23 : decode mm_Mo_retrieve.2.1 23 = .ok (.iconst 0, 1) := by decide +kernel
theorem d_Mo_retrieve_24 : decode mm_Mo_retrieve.2.1 24 = .ok (.istore_n 2, 1) := by decide +kernel
theorem d_Mo_retrieve_25 : decode mm_Mo_retrieve.2.1 25 = .ok (.iload_n 2, 1) := by decide +kernel
theorem d_Mo_retrieve_26 : decode mm_Mo_retrieve.2.1 26 = .ok (.ifCond .ne 9, 3) := by decide +kernel
theorem d_Mo_retrieve_29 : decode mm_Mo_retrieve.2.1 29 = .ok (.sipush 550, 3) := by decide +kernel
theorem d_Mo_retrieve_32 : decode mm_Mo_retrieve.2.1 32 = .ok (.goto 58, 3) := by decide +kernel
theorem d_Mo_retrieve_35 : decode mm_Mo_retrieve.2.1 35 = .ok (.aload_n 0, 1) := by decide +kernel
theorem d_Mo_retrieve_36 : decode mm_Mo_retrieve.2.1 36 = .ok (.aload_n 0, 1) := by decide +kernel
theorem d_Mo_retrieve_37 : decode mm_Mo_retrieve.2.1 37 = .ok (.getfield 249, 3) := by decide +kernel
theorem d_Mo_retrieve_40 : decode mm_Mo_retrieve.2.1 40 = .ok (.invokevirtual 301, 3) := by decide +kernel
theorem d_Mo_retrieve_43 : decode mm_Mo_retrieve.2.1 43 = .ok (.ifCond .eq 9, 3) := by decide +kernel
theorem d_Mo_retrieve_46 : decode mm_Mo_retrieve.2.1 46 = .ok (.sipush 450, 3) := by decide +kernel
theorem d_Mo_retrieve_49 : decode mm_Mo_retrieve.2.1 49 = .ok (.goto 41, 3) := by decide +kernel
theorem d_Mo_retrieve_52 : decode mm_Mo_retrieve.2.1 52 = .ok (.aload_n 0, 1) := by decide +kernel
theorem d_Mo_retrieve_53 : decode mm_Mo_retrieve.2.1 53 = .ok (.getfield 95, 3) := by decide +kernel
theorem d_Mo_retrieve_56 : decode mm_Mo_retrieve.2.1 56 = .ok (.aload_n 0, 1) := by decide +kernel
theorem d_Mo_retrieve_57 : decode mm_Mo_retrieve.2.1 57 = .ok (.getfield 137, 3) := by decide +kernel
theorem d_Mo_retrieve_60 : decode mm_Mo_retrieve.2.1 60 = .ok (.baload, 1) := by decide +kernel
theorem d_Mo_retrieve_61 : decode mm_Mo_retrieve.2.1 61 = .ok (.ifCond .ne 9, 3) := by decide +kernel
theorem d_Mo_retrieve_64 : decode mm_Mo_retrieve.2.1 64 = .ok (.sipush 425, 3) := by decide +kernel
theorem d_Mo_retrieve_67 : decode mm_Mo_retrieve.2.1 67 = .ok (.goto 23, 3) := by decide +kernel
theorem d_Mo_retrieve_70 : decode mm_Mo_retrieve.2.1 70 = .ok (.iload_n 1, 1) := by decide +kernel
theorem d_Mo_retrieve_71 : decode mm_Mo_retrieve.2.1 71 = .ok (.aload_n 0, 1) := by decide +kernel
theorem d_Mo_retrieve_72 : decode mm_Mo_retrieve.2.1 72 = .ok (.getfield 47, 3) := by decide +kernel
theorem d_Mo_retrieve_75 : decode mm_Mo_retrieve.2.1 75 = .ok (.aload_n 0, 1) := by decide +kernel
theorem d_Mo_retrieve_76 : decode mm_Mo_retrieve.2.1 76 = .ok (.getfield 249, 3) := by decide +kernel
theorem d_Mo_retrieve_79 : decode mm_Mo_retrieve.2.1 79 = .ok (.iaload, 1) := by decide +kernel
theorem d_Mo_retrieve_80 : decode mm_Mo_retrieve.2.1 80 = .ok (.if_icmp .le 9, 3) := by decide +kernel
theorem d_Mo_retrieve_83 : decode mm_Mo_retrieve.2.1 83 = .ok (.sipush 554, 3) := by decide +kernel
theorem d_Mo_retrieve_86 : decode mm_Mo_retrieve.2.1 86 = .ok (.goto 4, 3) := by decide +kernel
theorem d_Mo_retrieve_89 : decode mm_Mo_retrieve.2.1 89 = .ok (.iconst 0, 1) := by decide +kernel
theorem d_Mo_retrieve_90 : decode mm_Mo_retrieve.2.1 90 = .ok (.istore_n 3, 1) := by decide +kernel
theorem d_Mo_retrieve_91 : decode mm_Mo_retrieve.2.1 91 = .ok (.iload_n 3, 1) := by decide +kernel
theorem d_Mo_retrieve_92 : decode mm_Mo_retrieve.2.1 92 = .ok (.ifCond .le 9, 3) := by decide +kernel
theorem d_Mo_retrieve_95 : decode mm_Mo_retrieve.2.1 95 = .ok (.aload_n 0, 1) := by decide +kernel
theorem d_Mo_retrieve_96 : decode mm_Mo_retrieve.2.1 96 = .ok (.iload_n 3, 1) := by decide +kernel
theorem d_Mo_retrieve_97 : decode mm_Mo_retrieve.2.1 97 = .ok (.invokevirtual 218, 3) := by decide +kernel
theorem d_Mo_retrieve_100 : decode mm_Mo_retrieve.2.1 100 = .ok (.return_, 1) := by decide +kernel
theorem d_Mo_retrieve_101 : decode mm_Mo_retrieve.2.1 101 = .ok (.aload_n 0, 1) := by decide +kernel
theorem d_Mo_retrieve_102 : decode mm_Mo_retrieve.2.1 102 = .ok (.getfield 107, 3) := by decide +kernel
theorem d_Mo_retrieve_105 : decode mm_Mo_retrieve.2.1 105 = .ok (.aload_n 0, 1) := by decide +kernel
theorem d_Mo_retrieve_106 : decode mm_Mo_retrieve.2.1 106 = .ok (.getfield 137, 3) := by decide +kernel
theorem d_Mo_retrieve_109 : decode mm_Mo_retrieve.2.1 109 = .ok (.iconst 0, 1) := by decide +kernel
theorem d_Mo_retrieve_110 : decode mm_Mo_retrieve.2.1 110 = .ok (.iastore, 1) := by decide +kernel
theorem d_Mo_retrieve_111 : decode mm_Mo_retrieve.2.1 111 = .ok (.iload_n 1, 1) := by decide +kernel
theorem d_Mo_retrieve_112 : decode mm_Mo_retrieve.2.1 112 = .ok (.istore 4, 2) := by decide +kernel
theorem d_Mo_retrieve_114 : decode mm_Mo_retrieve.2.1 114 = .ok (.iload 4, 2) := by decide +kernel
theorem d_Mo_retrieve_116 : decode mm_Mo_retrieve.2.1 116 = .ok (.aload_n 0, 1) := by decide +kernel
theorem d_Mo_retrieve_117 : decode mm_Mo_retrieve.2.1 117 = .ok (.getfield 47, 3) := by decide +kernel
theorem d_Mo_retrieve_120 : decode mm_Mo_retrieve.2.1 120 = .ok (.aload_n 0, 1) := by decide +kernel
theorem d_Mo_retrieve_121 : decode mm_Mo_retrieve.2.1 121 = .ok (.getfield 249, 3) := by decide +kernel
theorem d_Mo_retrieve_124 : decode mm_Mo_retrieve.2.1 124 = .ok (.iaload, 1) := by decide +kernel
theorem d_Mo_retrieve_125 : decode mm_Mo_retrieve.2.1 125 = .ok (.if_icmp .ge 57, 3) := by decide +kernel
theorem d_Mo_retrieve_128 : decode mm_Mo_retrieve.2.1 128 = .ok (.aload_n 0, 1) := by decide +kernel
theorem d_Mo_retrieve_129 : decode mm_Mo_retrieve.2.1 129 = .ok (.getfield 53, 3) := by decide +kernel
theorem d_Mo_retrieve_132 : decode mm_Mo_retrieve.2.1 132 = .ok (.bipush 24, 2) := by decide +kernel
theorem d_Mo_retrieve_134 : decode mm_Mo_retrieve.2.1 134 = .ok (.aload_n 0, 1) := by decide +kernel
theorem d_Mo_retrieve_135 : decode mm_Mo_retrieve.2.1 135 = .ok (.getfield 249, 3) := by decide +kernel
theorem d_Mo_retrieve_138 : decode mm_Mo_retrieve.2.1 138 = .ok (.imul, 1) := by decide +kernel
theorem d_Mo_retrieve_139 : decode mm_Mo_retrieve.2.1 139 = .ok (.iload 4, 2) := by decide +kernel
theorem d_Mo_retrieve_141 : decode mm_Mo_retrieve.2.1 141 = .ok (.iadd, 1) := by decide +kernel
theorem d_Mo_retrieve_142 : decode mm_Mo_retrieve.2.1 142 = .ok (.iaload, 1) := by decide +kernel
theorem d_Mo_retrieve_143 : decode mm_Mo_retrieve.2.1 143 = .ok (.istore 5, 2) := by decide +kernel
theorem d_Mo_retrieve_145 : decode mm_Mo_retrieve.2.1 145 = .ok (.iload 5, 2) := by decide +kernel
theorem d_Mo_retrieve_147 : decode mm_Mo_retrieve.2.1 147 = .ok (.bipush 10, 2) := by decide +kernel
theorem d_Mo_retrieve_149 : decode mm_Mo_retrieve.2.1 149 = .ok (.if_icmp .ne 21, 3) := by decide +kernel
theorem d_Mo_retrieve_152 : decode mm_Mo_retrieve.2.1 152 = .ok (.aload_n 0, 1) := by decide +kernel
theorem d_Mo_retrieve_153 : decode mm_Mo_retrieve.2.1 153 = .ok (.getfield 92, 3) := by decide +kernel
theorem d_Mo_retrieve_156 : decode mm_Mo_retrieve.2.1 156 = .ok (.aload_n 0, 1) := by decide +kernel
theorem d_Mo_retrieve_157 : decode mm_Mo_retrieve.2.1 157 = .ok (.getfield 137, 3) := by decide +kernel
theorem d_Mo_retrieve_160 : decode mm_Mo_retrieve.2.1 160 = .ok (.baload, 1) := by decide +kernel
theorem d_Mo_retrieve_161 : decode mm_Mo_retrieve.2.1 161 = .ok (.ifCond .eq 9, 3) := by decide +kernel
theorem d_Mo_retrieve_164 : decode mm_Mo_retrieve.2.1 164 = .ok (.aload_n 0, 1) := by decide +kernel
theorem d_Mo_retrieve_165 : decode mm_Mo_retrieve.2.1 165 = .ok (.bipush 13, 2) := by decide +kernel
theorem d_Mo_retrieve_167 : decode mm_Mo_retrieve.2.1 167 = .ok (.invokevirtual 295, 3) := by decide +kernel
theorem d_Mo_retrieve_170 : decode mm_Mo_retrieve.2.1 170 = .ok (.aload_n 0, 1) := by decide +kernel
theorem d_Mo_retrieve_171 : decode mm_Mo_retrieve.2.1 171 = .ok (.iload 5, 2) := by decide +kernel
theorem d_Mo_retrieve_173 : decode mm_Mo_retrieve.2.1 173 = .ok (.invokevirtual 295, 3) := by decide +kernel
theorem d_Mo_retrieve_176 : decode mm_Mo_retrieve.2.1 176 = .ok (.iinc 4 1, 3) := by decide +kernel
theorem d_Mo_retrieve_179 : decode mm_Mo_retrieve.2.1 179 = .ok (.goto (-65), 3) := by decide +kernel
theorem d_Mo_retrieve_182 : decode mm_Mo_retrieve.2.1 182 = .ok (.aload_n 0, 1) := by decide +kernel
theorem d_Mo_retrieve_183 : decode mm_Mo_retrieve.2.1 183 = .ok (.aload_n 0, 1) := by decide +kernel
theorem d_Mo_retrieve_184 : decode mm_Mo_retrieve.2.1 184 = .ok (.getfield 249, 3) := by decide +kernel
theorem d_Mo_retrieve_187 : decode mm_Mo_retrieve.2.1 187 = .ok (.invokevirtual 298, 3) := by decide +kernel
theorem d_Mo_retrieve_190 : decode mm_Mo_retrieve.2.1 190 = .ok (.return_, 1) := by decide +kernel
def wp_Mo_retrieve_170  (H114 : Int32 → MzM → Prop) (K : MzM → Prop) (y4 : Int32) (y5 : Int32) (M : MzM) : Prop := wp_Mo_addOut  y5 M (fun M56 => H114 (y4 + (1 : Int32)) M56)
def wp_Mo_retrieve_114   (K : MzM → Prop) : Nat → Int32 → MzM → Prop
  | 0, _, _ => False
  | r0 + 1, y4, M => (∃ j35 : Nat, (mz_i M (30, 0) 33).toInt = (j35 : Int) ∧ j35 < 16 ∧ (((mz_i M (36, 0) j35) ≤ y4 → wp_Mo_beginSending  (mz_i M (30, 0) 33) M (fun M39 => K M39)) ∧ (¬ (mz_i M (36, 0) j35) ≤ y4 → (∃ j42 : Nat, (((24 : Int32) * (mz_i M (30, 0) 33)) + y4).toInt = (j42 : Int) ∧ j42 < 384 ∧ ((¬ (mz_i M (38, 0) j42) = (10 : Int32) → wp_Mo_retrieve_170  (wp_Mo_retrieve_114   K r0) K y4 (mz_i M (38, 0) j42) M) ∧ ((mz_i M (38, 0) j42) = (10 : Int32) → (∃ j46 : Nat, (mz_i M (30, 0) 29).toInt = (j46 : Int) ∧ j46 < 2 ∧ (((mz_i M (51, 0) j46) = 0 → wp_Mo_retrieve_170  (wp_Mo_retrieve_114   K r0) K y4 (mz_i M (38, 0) j42) M) ∧ (¬ (mz_i M (51, 0) j46) = 0 → wp_Mo_addOut  (13 : Int32) M (fun M50 => wp_Mo_retrieve_170  (wp_Mo_retrieve_114   K r0) K y4 (mz_i M (38, 0) j42) M50))))))))))
def wp_Mo_retrieve_90   (K : MzM → Prop) (y1 : Int32) (ys0 : Int32) (M : MzM) : Prop := ((ys0 ≤ 0 → (∃ j26 : Nat, (mz_i M (30, 0) 29).toInt = (j26 : Int) ∧ j26 < 2 ∧ ∀ M23 : MzM, M23 = mz_si M (56, 0) j26 (0 : Int32) → (∃ r29 : Nat, wp_Mo_retrieve_114   K r29 y1 M23))) ∧ (¬ ys0 ≤ 0 → wp_Mo_answer  ys0 M (fun M31 => K M31)))
def wp_Mo_retrieve_24   (K : MzM → Prop) (y1 : Int32) (ys0 : Int32) (M : MzM) : Prop := ((¬ ys0 = 0 → wp_Mo_written  (mz_i M (30, 0) 33) M (fun v10 M7 => ((v10 = 0 → (∃ j11 : Nat, (mz_i M7 (30, 0) 29).toInt = (j11 : Int) ∧ j11 < 2 ∧ ((¬ (mz_i M7 (52, 0) j11) = 0 → (∃ j15 : Nat, (mz_i M7 (30, 0) 33).toInt = (j15 : Int) ∧ j15 < 16 ∧ ((y1 ≤ (mz_i M7 (36, 0) j15) → wp_Mo_retrieve_90   K y1 (0 : Int32) M7) ∧ (¬ y1 ≤ (mz_i M7 (36, 0) j15) → wp_Mo_retrieve_90   K y1 (554 : Int32) M7)))) ∧ ((mz_i M7 (52, 0) j11) = 0 → wp_Mo_retrieve_90   K y1 (425 : Int32) M7)))) ∧ (¬ v10 = 0 → wp_Mo_retrieve_90   K y1 (450 : Int32) M7)))) ∧ (ys0 = 0 → wp_Mo_retrieve_90   K y1 (550 : Int32) M))
def wp_Mo_retrieve_23   (K : MzM → Prop) (y1 : Int32) (M : MzM) : Prop := wp_Mo_retrieve_24   K y1 (0 : Int32) M
def wp_Mo_retrieve  (a1 : Int32) (M : MzM) (K : MzM → Prop) : Prop := (((mz_i M (30, 0) 33) < 0 → wp_Mo_retrieve_23   K a1 M) ∧ (¬ (mz_i M (30, 0) 33) < 0 → (∃ j1 : Nat, (mz_i M (30, 0) 33).toInt = (j1 : Int) ∧ j1 < 16 ∧ (((mz_i M (33, 0) j1) = 0 → wp_Mo_retrieve_23   K a1 M) ∧ (¬ (mz_i M (33, 0) j1) = 0 → wp_Mo_retrieve_24   K a1 (1 : Int32) M)))))
theorem tm_Mo_retrieve_170 {G : MzG} {B : MzB} {d : Nat} {K : MzM → Prop} (hF : mzLive true B)   {H114 : Int32 → MzM → Prop} (hH114 : ∀ (y4 : Int32) (M : MzM), mzLnk true M → H114 y4 M → MzS G B (d + 5) mm_Mo_retrieve M (0, 0) (mzK0 true B K) 114 [(0, .ref (mz_ad B (30, 0))), (4, .int y4)] []) (y4 : Int32) (y5 : Int32) (M : MzM) (hL : mzLnk true M) (h : wp_Mo_retrieve_170  H114 K y4 y5 M) : MzS G B (d + 5) mm_Mo_retrieve M (0, 0) (mzK0 true B K) 170 [(0, .ref (mz_ad B (30, 0))), (4, .int y4), (5, .int y5)] [] := by
  unfold wp_Mo_retrieve_170 at h
  exact (mz_aload_n d_Mo_retrieve_170 rfl (mz_iload d_Mo_retrieve_171 rfl (mz_callV (As := [.int y5]) (st := []) (hF 30 0 rfl (by decide)) rfl (mzClOf cl_10) 0 0 d_Mo_retrieve_173 cs_Mo_addOut wl_Mo_295 wi_Mo_addOut wse_Mo_addOut (Nat.le_of_ble_eq_true rfl) (Nat.zero_le _) (Nat.zero_le _) (MzC.mono (tm_Mo_addOut (d := (d + 4)) hF  hL h) (fun r9 B9 M56 hq58 => by obtain ⟨rfl, hL57, rfl, hq58⟩ := hq58; exact ⟨none, rfl, (mz_iinc (y4 + (1 : Int32)) d_Mo_retrieve_176 rfl (by decide) rfl (mz_goto 114 d_Mo_retrieve_179 rfl (MzS.loc [(0, .ref (mz_ad B (30, 0))), (4, .int (y4 + (1 : Int32)))] ⟨rfl, rfl, trivial⟩ (hH114 (y4 + (1 : Int32)) M56 hL57 hq58))))⟩)))))
theorem tm_Mo_retrieve_114 {G : MzG} {B : MzB} {d : Nat} {K : MzM → Prop} (hF : mzLive true B)     : ∀ (r0 : Nat) (y4 : Int32) (M : MzM), mzLnk true M → wp_Mo_retrieve_114   K r0 y4 M → MzS G B (d + 5) mm_Mo_retrieve M (0, 0) (mzK0 true B K) 114 [(0, .ref (mz_ad B (30, 0))), (4, .int y4)] [] := by
  intro r0
  induction r0 with
  | zero => intro y4 M hL h; exact False.elim h
  | succ r0 hH114 =>
    intro y4 M hL h
    unfold wp_Mo_retrieve_114 at h
    exact (mz_iload d_Mo_retrieve_114 rfl (mz_aload_n d_Mo_retrieve_116 rfl (mz_getR (k := 6) (a := (36, 0)) cl_10 d_Mo_retrieve_117 (by decide) wf_Mo_47 rfl (hF 30 0 rfl (by decide)) rfl (hL (30, 0) 6 (36, 0) rfl rfl (by decide)) (mz_aload_n d_Mo_retrieve_120 rfl (mz_getI (k := 33) cl_10 d_Mo_retrieve_121 (by decide) wf_Mo_249 rfl (hF 30 0 rfl (by decide)) rfl (match h with | ⟨j35, h36, h37, h38⟩ => mz_iald j35 d_Mo_retrieve_124 (hF 36 0 rfl (by decide)) rfl h36 h37 (mz_icmp_ge 182 d_Mo_retrieve_125 rfl (fun hc55 => (mz_aload_n d_Mo_retrieve_182 rfl (mz_aload_n d_Mo_retrieve_183 rfl (mz_getI (k := 33) cl_10 d_Mo_retrieve_184 (by decide) wf_Mo_249 rfl (hF 30 0 rfl (by decide)) rfl (mz_callV (As := [.int (mz_i M (30, 0) 33)]) (st := []) (hF 30 0 rfl (by decide)) rfl (mzClOf cl_10) 0 0 d_Mo_retrieve_187 cs_Mo_beginSending wl_Mo_298 wi_Mo_beginSending wse_Mo_beginSending (Nat.le_of_ble_eq_true rfl) (Nat.zero_le _) (Nat.zero_le _) (MzC.mono (tm_Mo_beginSending (d := d) hF  hL (h38.1 hc55)) (fun r9 B9 M39 hq41 => by obtain ⟨rfl, hL40, rfl, hq41⟩ := hq41; exact ⟨none, rfl, (mz_vret d_Mo_retrieve_190 rfl ⟨rfl, hL40, rfl, hq41⟩)⟩))))))) (fun hc55 => (mz_aload_n d_Mo_retrieve_128 rfl (mz_getR (k := 8) (a := (38, 0)) cl_10 d_Mo_retrieve_129 (by decide) wf_Mo_53 rfl (hF 30 0 rfl (by decide)) rfl (hL (30, 0) 8 (38, 0) rfl rfl (by decide)) (mz_bipush (24 : Int32) d_Mo_retrieve_132 (by decide) (mz_aload_n d_Mo_retrieve_134 rfl (mz_getI (k := 33) cl_10 d_Mo_retrieve_135 (by decide) wf_Mo_249 rfl (hF 30 0 rfl (by decide)) rfl (mz_imul d_Mo_retrieve_138 (mz_iload d_Mo_retrieve_139 rfl (mz_iadd d_Mo_retrieve_141 (match (h38.2 hc55) with | ⟨j42, h43, h44, h45⟩ => mz_iald j42 d_Mo_retrieve_142 (hF 38 0 rfl (by decide)) rfl h43 h44 (mz_istore d_Mo_retrieve_143 (by decide) (mz_iload d_Mo_retrieve_145 rfl (mz_bipush (10 : Int32) d_Mo_retrieve_147 (by decide) (mz_icmp_ne 170 d_Mo_retrieve_149 rfl (fun hc54 => (MzS.loc [(0, .ref (mz_ad B (30, 0))), (4, .int y4), (5, .int (mz_i M (38, 0) j42))] ⟨rfl, rfl, rfl, trivial⟩ (tm_Mo_retrieve_170 hF  hH114 y4 (mz_i M (38, 0) j42) M hL (h45.1 hc54)))) (fun hc54 => (mz_aload_n d_Mo_retrieve_152 rfl (mz_getR (k := 21) (a := (51, 0)) cl_10 d_Mo_retrieve_153 (by decide) wf_Mo_92 rfl (hF 30 0 rfl (by decide)) rfl (hL (30, 0) 21 (51, 0) rfl rfl (by decide)) (mz_aload_n d_Mo_retrieve_156 rfl (mz_getI (k := 29) cl_10 d_Mo_retrieve_157 (by decide) wf_Mo_137 rfl (hF 30 0 rfl (by decide)) rfl (match (h45.2 hc54) with | ⟨j46, h47, h48, h49⟩ => mz_zald j46 d_Mo_retrieve_160 (hF 51 0 rfl (by decide)) rfl h47 h48 (mz_if_eq 170 d_Mo_retrieve_161 rfl (fun hc53 => (MzS.loc [(0, .ref (mz_ad B (30, 0))), (4, .int y4), (5, .int (mz_i M (38, 0) j42))] ⟨rfl, rfl, rfl, trivial⟩ (tm_Mo_retrieve_170 hF  hH114 y4 (mz_i M (38, 0) j42) M hL (h49.1 hc53)))) (fun hc53 => (mz_aload_n d_Mo_retrieve_164 rfl (mz_bipush (13 : Int32) d_Mo_retrieve_165 (by decide) (mz_callV (As := [.int (13 : Int32)]) (st := []) (hF 30 0 rfl (by decide)) rfl (mzClOf cl_10) 0 0 d_Mo_retrieve_167 cs_Mo_addOut wl_Mo_295 wi_Mo_addOut wse_Mo_addOut (Nat.le_of_ble_eq_true rfl) (Nat.zero_le _) (Nat.zero_le _) (MzC.mono (tm_Mo_addOut (d := (d + 4)) hF  hL (h49.2 hc53)) (fun r9 B9 M50 hq52 => by obtain ⟨rfl, hL51, rfl, hq52⟩ := hq52; exact ⟨none, rfl, (MzS.loc [(0, .ref (mz_ad B (30, 0))), (4, .int y4), (5, .int (mz_i M (38, 0) j42))] ⟨rfl, rfl, rfl, trivial⟩ (tm_Mo_retrieve_170 hF  hH114 y4 (mz_i M (38, 0) j42) M50 hL51 hq52))⟩))))))))))))))))))))))))))))))))))
theorem tm_Mo_retrieve_90 {G : MzG} {B : MzB} {d : Nat} {K : MzM → Prop} (hF : mzLive true B)     (y1 : Int32) (ys0 : Int32) (M : MzM) (hL : mzLnk true M) (h : wp_Mo_retrieve_90   K y1 ys0 M) : MzS G B (d + 5) mm_Mo_retrieve M (0, 0) (mzK0 true B K) 90 [(0, .ref (mz_ad B (30, 0))), (1, .int y1)] [.int ys0] := by
  unfold wp_Mo_retrieve_90 at h
  exact (mz_istore_n d_Mo_retrieve_90 (by decide) (mz_iload_n d_Mo_retrieve_91 rfl (mz_if_le 101 d_Mo_retrieve_92 rfl (fun hc34 => (mz_aload_n d_Mo_retrieve_101 rfl (mz_getR (k := 26) (a := (56, 0)) cl_10 d_Mo_retrieve_102 (by decide) wf_Mo_107 rfl (hF 30 0 rfl (by decide)) rfl (hL (30, 0) 26 (56, 0) rfl rfl (by decide)) (mz_aload_n d_Mo_retrieve_105 rfl (mz_getI (k := 29) cl_10 d_Mo_retrieve_106 (by decide) wf_Mo_137 rfl (hF 30 0 rfl (by decide)) rfl (mz_iconst (0 : Int32) d_Mo_retrieve_109 (by decide) (match (h.1 hc34) with | ⟨j26, h27, h28, h25⟩ => mz_iast j26 d_Mo_retrieve_110 (hF 56 0 rfl (by decide)) rfl h27 h28 (let M23 : MzM := mz_si M (56, 0) j26 (0 : Int32); (mz_iload_n d_Mo_retrieve_111 rfl (mz_istore d_Mo_retrieve_112 (by decide) (MzS.loc [(0, .ref (mz_ad B (30, 0))), (4, .int y1)] ⟨rfl, rfl, trivial⟩ (match (h25 M23 rfl) with | ⟨r29, h30⟩ => tm_Mo_retrieve_114 hF   r29 y1 M23 hL h30)))))))))))) (fun hc34 => (mz_aload_n d_Mo_retrieve_95 rfl (mz_iload_n d_Mo_retrieve_96 rfl (mz_callV (As := [.int ys0]) (st := []) (hF 30 0 rfl (by decide)) rfl (mzClOf cl_10) 0 0 d_Mo_retrieve_97 cs_Mo_answer wl_Mo_218 wi_Mo_answer wse_Mo_answer (Nat.le_of_ble_eq_true rfl) (Nat.zero_le _) (Nat.zero_le _) (MzC.mono (tm_Mo_answer (d := (d + 2)) hF  hL (h.2 hc34)) (fun r9 B9 M31 hq33 => by obtain ⟨rfl, hL32, rfl, hq33⟩ := hq33; exact ⟨none, rfl, (mz_vret d_Mo_retrieve_100 rfl ⟨rfl, hL32, rfl, hq33⟩)⟩)))))))))
theorem tm_Mo_retrieve_24 {G : MzG} {B : MzB} {d : Nat} {K : MzM → Prop} (hF : mzLive true B)     (y1 : Int32) (ys0 : Int32) (M : MzM) (hL : mzLnk true M) (h : wp_Mo_retrieve_24   K y1 ys0 M) : MzS G B (d + 5) mm_Mo_retrieve M (0, 0) (mzK0 true B K) 24 [(0, .ref (mz_ad B (30, 0))), (1, .int y1)] [.int ys0] := by
  unfold wp_Mo_retrieve_24 at h
  exact (mz_istore_n d_Mo_retrieve_24 (by decide) (mz_iload_n d_Mo_retrieve_25 rfl (mz_if_ne 35 d_Mo_retrieve_26 rfl (fun hc22 => (mz_aload_n d_Mo_retrieve_35 rfl (mz_aload_n d_Mo_retrieve_36 rfl (mz_getI (k := 33) cl_10 d_Mo_retrieve_37 (by decide) wf_Mo_249 rfl (hF 30 0 rfl (by decide)) rfl (mz_callV (As := [.int (mz_i M (30, 0) 33)]) (st := []) (hF 30 0 rfl (by decide)) rfl (mzClOf cl_10) 0 0 d_Mo_retrieve_40 cs_Mo_written wl_Mo_301 wi_Mo_written wse_Mo_written (Nat.le_of_ble_eq_true rfl) (Nat.zero_le _) (Nat.zero_le _) (MzC.mono (tm_Mo_written (d := (d + 4)) hF  hL (h.1 hc22)) (fun r9 B9 M7 hq9 => by obtain ⟨rfl, hL8, v10, rfl, hq9⟩ := hq9; exact ⟨_, rfl, (mz_if_eq 52 d_Mo_retrieve_43 rfl (fun hc21 => (mz_aload_n d_Mo_retrieve_52 rfl (mz_getR (k := 22) (a := (52, 0)) cl_10 d_Mo_retrieve_53 (by decide) wf_Mo_95 rfl (hF 30 0 rfl (by decide)) rfl (hL8 (30, 0) 22 (52, 0) rfl rfl (by decide)) (mz_aload_n d_Mo_retrieve_56 rfl (mz_getI (k := 29) cl_10 d_Mo_retrieve_57 (by decide) wf_Mo_137 rfl (hF 30 0 rfl (by decide)) rfl (match (hq9.1 hc21) with | ⟨j11, h12, h13, h14⟩ => mz_zald j11 d_Mo_retrieve_60 (hF 52 0 rfl (by decide)) rfl h12 h13 (mz_if_ne 70 d_Mo_retrieve_61 rfl (fun hc20 => (mz_iload_n d_Mo_retrieve_70 rfl (mz_aload_n d_Mo_retrieve_71 rfl (mz_getR (k := 6) (a := (36, 0)) cl_10 d_Mo_retrieve_72 (by decide) wf_Mo_47 rfl (hF 30 0 rfl (by decide)) rfl (hL8 (30, 0) 6 (36, 0) rfl rfl (by decide)) (mz_aload_n d_Mo_retrieve_75 rfl (mz_getI (k := 33) cl_10 d_Mo_retrieve_76 (by decide) wf_Mo_249 rfl (hF 30 0 rfl (by decide)) rfl (match (h14.1 hc20) with | ⟨j15, h16, h17, h18⟩ => mz_iald j15 d_Mo_retrieve_79 (hF 36 0 rfl (by decide)) rfl h16 h17 (mz_icmp_le 89 d_Mo_retrieve_80 rfl (fun hc19 => (mz_iconst (0 : Int32) d_Mo_retrieve_89 (by decide) (MzS.loc [(0, .ref (mz_ad B (30, 0))), (1, .int y1)] ⟨rfl, rfl, trivial⟩ (tm_Mo_retrieve_90 hF   y1 (0 : Int32) M7 hL8 (h18.1 hc19))))) (fun hc19 => (mz_sipush (554 : Int32) d_Mo_retrieve_83 (by decide) (mz_goto 90 d_Mo_retrieve_86 rfl (MzS.loc [(0, .ref (mz_ad B (30, 0))), (1, .int y1)] ⟨rfl, rfl, trivial⟩ (tm_Mo_retrieve_90 hF   y1 (554 : Int32) M7 hL8 (h18.2 hc19)))))))))))))) (fun hc20 => (mz_sipush (425 : Int32) d_Mo_retrieve_64 (by decide) (mz_goto 90 d_Mo_retrieve_67 rfl (MzS.loc [(0, .ref (mz_ad B (30, 0))), (1, .int y1)] ⟨rfl, rfl, trivial⟩ (tm_Mo_retrieve_90 hF   y1 (425 : Int32) M7 hL8 (h14.2 hc20))))))))))))) (fun hc21 => (mz_sipush (450 : Int32) d_Mo_retrieve_46 (by decide) (mz_goto 90 d_Mo_retrieve_49 rfl (MzS.loc [(0, .ref (mz_ad B (30, 0))), (1, .int y1)] ⟨rfl, rfl, trivial⟩ (tm_Mo_retrieve_90 hF   y1 (450 : Int32) M7 hL8 (hq9.2 hc21)))))))⟩))))))) (fun hc22 => (mz_sipush (550 : Int32) d_Mo_retrieve_29 (by decide) (mz_goto 90 d_Mo_retrieve_32 rfl (MzS.loc [(0, .ref (mz_ad B (30, 0))), (1, .int y1)] ⟨rfl, rfl, trivial⟩ (tm_Mo_retrieve_90 hF   y1 (550 : Int32) M hL (h.2 hc22)))))))))
theorem tm_Mo_retrieve_23 {G : MzG} {B : MzB} {d : Nat} {K : MzM → Prop} (hF : mzLive true B)     (y1 : Int32) (M : MzM) (hL : mzLnk true M) (h : wp_Mo_retrieve_23   K y1 M) : MzS G B (d + 5) mm_Mo_retrieve M (0, 0) (mzK0 true B K) 23 [(0, .ref (mz_ad B (30, 0))), (1, .int y1)] [] := by
  unfold wp_Mo_retrieve_23 at h
  exact (mz_iconst (0 : Int32) d_Mo_retrieve_23 (by decide) (MzS.loc [(0, .ref (mz_ad B (30, 0))), (1, .int y1)] ⟨rfl, rfl, trivial⟩ (tm_Mo_retrieve_24 hF   y1 (0 : Int32) M hL h)))
theorem tm_Mo_retrieve {G : MzG} {B : MzB} {d : Nat} {K : MzM → Prop} (hF : mzLive true B)   {a1 : Int32} {M : MzM} (hL : mzLnk true M) (h : wp_Mo_retrieve  a1 M K) : MzC G B (d + 5) mm_Mo_retrieve [.ref (mz_ad B (30, 0)), .int a1] M (0, 0) (mzK0 true B K) := by
  unfold wp_Mo_retrieve at h
  exact MzC.of rfl (Nat.le_of_ble_eq_true rfl) (show MzS G B (d + 5) mm_Mo_retrieve M (0, 0) (mzK0 true B K) 0 [(0, .ref (mz_ad B (30, 0))), (1, .int a1)] [] from (mz_aload_n d_Mo_retrieve_0 rfl (mz_getI (k := 33) cl_10 d_Mo_retrieve_1 (by decide) wf_Mo_249 rfl (hF 30 0 rfl (by decide)) rfl (mz_if_lt 23 d_Mo_retrieve_4 rfl (fun hc6 => (MzS.loc [(0, .ref (mz_ad B (30, 0))), (1, .int a1)] ⟨rfl, rfl, trivial⟩ (tm_Mo_retrieve_23 hF   a1 M hL (h.1 hc6)))) (fun hc6 => (mz_aload_n d_Mo_retrieve_7 rfl (mz_getR (k := 3) (a := (33, 0)) cl_10 d_Mo_retrieve_8 (by decide) wf_Mo_38 rfl (hF 30 0 rfl (by decide)) rfl (hL (30, 0) 3 (33, 0) rfl rfl (by decide)) (mz_aload_n d_Mo_retrieve_11 rfl (mz_getI (k := 33) cl_10 d_Mo_retrieve_12 (by decide) wf_Mo_249 rfl (hF 30 0 rfl (by decide)) rfl (match (h.2 hc6) with | ⟨j1, h2, h3, h4⟩ => mz_zald j1 d_Mo_retrieve_15 (hF 33 0 rfl (by decide)) rfl h2 h3 (mz_if_eq 23 d_Mo_retrieve_16 rfl (fun hc5 => (MzS.loc [(0, .ref (mz_ad B (30, 0))), (1, .int a1)] ⟨rfl, rfl, trivial⟩ (tm_Mo_retrieve_23 hF   a1 M hL (h4.1 hc5)))) (fun hc5 => (mz_iconst (1 : Int32) d_Mo_retrieve_19 (by decide) (mz_goto 24 d_Mo_retrieve_20 rfl (MzS.loc [(0, .ref (mz_ad B (30, 0))), (1, .int a1)] ⟨rfl, rfl, trivial⟩ (tm_Mo_retrieve_24 hF   a1 (1 : Int32) M hL (h4.2 hc5)))))))))))))))))
def mm_Mo_freeNode : MzT := (⟨"ParcelLineModel", "freeNode", "()I"⟩, prog_14_method_39_code, 2, (Option.some Jvm.ClassFile.FieldType.int))
theorem cs_Mo_freeNode {mm : MzT} : mzCall mm mm_Mo_freeNode 0 := ⟨wn_Mo, wco_Mo_freeNode, by decide +kernel, by decide⟩
theorem d_Mo_freeNode_0 : decode mm_Mo_freeNode.2.1 0 = .ok (.iconst 1, 1) := by decide +kernel
theorem d_Mo_freeNode_1 : decode mm_Mo_freeNode.2.1 1 = .ok (.istore_n 1, 1) := by decide +kernel
theorem d_Mo_freeNode_2 : decode mm_Mo_freeNode.2.1 2 = .ok (.iload_n 1, 1) := by decide +kernel
theorem d_Mo_freeNode_3 : decode mm_Mo_freeNode.2.1 3 = .ok (.bipush 16, 2) := by decide +kernel
theorem d_Mo_freeNode_5 : decode mm_Mo_freeNode.2.1 5 = .ok (.if_icmp .ge 20, 3) := by decide +kernel
theorem d_Mo_freeNode_8 : decode mm_Mo_freeNode.2.1 8 = .ok (.aload_n 0, 1) := by decide +kernel
theorem d_Mo_freeNode_9 : decode mm_Mo_freeNode.2.1 9 = .ok (.getfield 34, 3) := by decide +kernel
theorem d_Mo_freeNode_12 : decode mm_Mo_freeNode.2.1 12 = .ok (.iload_n 1, 1) := by decide +kernel
theorem d_Mo_freeNode_13 : decode mm_Mo_freeNode.2.1 13 = .ok (.baload, 1) := by decide +kernel
theorem d_Mo_freeNode_14 : decode mm_Mo_freeNode.2.1 14 = .ok (.ifCond .ne 5, 3) := by decide +kernel
theorem d_Mo_freeNode_17 : decode mm_Mo_freeNode.2.1 17 = .ok (.iload_n 1, 1) := by decide +kernel
theorem d_Mo_freeNode_18 : decode mm_Mo_freeNode.2.1 18 = .ok (.ireturn, 1) := by decide +kernel
theorem d_Mo_freeNode_19 : decode mm_Mo_freeNode.2.1 19 = .ok (.iinc 1 1, 3) := by decide +kernel
theorem d_Mo_freeNode_22 : decode mm_Mo_freeNode.2.1 22 = .ok (.goto (-20), 3) := by decide +kernel
theorem d_Mo_freeNode_25 : decode mm_Mo_freeNode.2.1 25 = .ok (.iconst (-1), 1) := by decide +kernel
theorem d_Mo_freeNode_26 : decode mm_Mo_freeNode.2.1 26 = .ok (.ireturn, 1) := by decide +kernel
def wp_Mo_freeNode_2   (K : Int32 → MzM → Prop) : Nat → Int32 → MzM → Prop
  | 0, _, _ => False
  | r0 + 1, y1, M => (((16 : Int32) ≤ y1 → K (-1 : Int32) M) ∧ (¬ (16 : Int32) ≤ y1 → (∃ j3 : Nat, y1.toInt = (j3 : Int) ∧ j3 < 16 ∧ ((¬ (mz_i M (32, 0) j3) = 0 → (wp_Mo_freeNode_2   K r0) (y1 + (1 : Int32)) M) ∧ ((mz_i M (32, 0) j3) = 0 → K y1 M)))))
def wp_Mo_freeNode   (M : MzM) (K : Int32 → MzM → Prop) : Prop := (∃ r1 : Nat, wp_Mo_freeNode_2   K r1 (1 : Int32) M)
theorem tm_Mo_freeNode_2 {G : MzG} {B : MzB} {d : Nat} {K : Int32 → MzM → Prop} (hF : mzLive true B)     : ∀ (r0 : Nat) (y1 : Int32) (M : MzM), mzLnk true M → wp_Mo_freeNode_2   K r0 y1 M → MzS G B d mm_Mo_freeNode M (0, 0) (mzK1 true B K) 2 [(0, .ref (mz_ad B (30, 0))), (1, .int y1)] [] := by
  intro r0
  induction r0 with
  | zero => intro y1 M hL h; exact False.elim h
  | succ r0 hH2 =>
    intro y1 M hL h
    unfold wp_Mo_freeNode_2 at h
    exact (mz_iload_n d_Mo_freeNode_2 rfl (mz_bipush (16 : Int32) d_Mo_freeNode_3 (by decide) (mz_icmp_ge 25 d_Mo_freeNode_5 rfl (fun hc8 => (mz_iconst (-1 : Int32) d_Mo_freeNode_25 (by decide) (mz_iret .int d_Mo_freeNode_26 rfl rfl ⟨rfl, hL, _, rfl, (h.1 hc8)⟩))) (fun hc8 => (mz_aload_n d_Mo_freeNode_8 rfl (mz_getR (k := 2) (a := (32, 0)) cl_10 d_Mo_freeNode_9 (by decide) wf_Mo_34 rfl (hF 30 0 rfl (by decide)) rfl (hL (30, 0) 2 (32, 0) rfl rfl (by decide)) (mz_iload_n d_Mo_freeNode_12 rfl (match (h.2 hc8) with | ⟨j3, h4, h5, h6⟩ => mz_zald j3 d_Mo_freeNode_13 (hF 32 0 rfl (by decide)) rfl h4 h5 (mz_if_ne 19 d_Mo_freeNode_14 rfl (fun hc7 => (mz_iinc (y1 + (1 : Int32)) d_Mo_freeNode_19 rfl (by decide) rfl (mz_goto 2 d_Mo_freeNode_22 rfl (MzS.loc [(0, .ref (mz_ad B (30, 0))), (1, .int (y1 + (1 : Int32)))] ⟨rfl, rfl, trivial⟩ (hH2 (y1 + (1 : Int32)) M hL (h6.1 hc7)))))) (fun hc7 => (mz_iload_n d_Mo_freeNode_17 rfl (mz_iret .int d_Mo_freeNode_18 rfl rfl ⟨rfl, hL, _, rfl, (h6.2 hc7)⟩))))))))))))
theorem tm_Mo_freeNode {G : MzG} {B : MzB} {d : Nat} {K : Int32 → MzM → Prop} (hF : mzLive true B)    {M : MzM} (hL : mzLnk true M) (h : wp_Mo_freeNode   M K) : MzC G B d mm_Mo_freeNode [.ref (mz_ad B (30, 0))] M (0, 0) (mzK1 true B K) := by
  unfold wp_Mo_freeNode at h
  exact MzC.of rfl (Nat.le_of_ble_eq_true rfl) (show MzS G B d mm_Mo_freeNode M (0, 0) (mzK1 true B K) 0 [(0, .ref (mz_ad B (30, 0)))] [] from (mz_iconst (1 : Int32) d_Mo_freeNode_0 (by decide) (mz_istore_n d_Mo_freeNode_1 (by decide) (MzS.loc [(0, .ref (mz_ad B (30, 0))), (1, .int (1 : Int32))] ⟨rfl, rfl, trivial⟩ (match h with | ⟨r1, h2⟩ => tm_Mo_freeNode_2 hF   r1 (1 : Int32) M hL h2)))))
def mm_Mo_moved : MzT := (⟨"ParcelLineModel", "moved", "(I)Z"⟩, prog_14_method_41_code, 2, (Option.some Jvm.ClassFile.FieldType.boolean))
theorem cs_Mo_moved {mm : MzT} : mzCall mm mm_Mo_moved 1 := ⟨wn_Mo, wco_Mo_moved, by decide +kernel, by decide⟩
theorem d_Mo_moved_0 : decode mm_Mo_moved.2.1 0 = .ok (.aload_n 0, 1) := by decide +kernel
theorem d_Mo_moved_1 : decode mm_Mo_moved.2.1 1 = .ok (.getfield 98, 3) := by decide +kernel
theorem d_Mo_moved_4 : decode mm_Mo_moved.2.1 4 = .ok (.iconst 0, 1) := by decide +kernel
theorem d_Mo_moved_5 : decode mm_Mo_moved.2.1 5 = .ok (.iaload, 1) := by decide +kernel
theorem d_Mo_moved_6 : decode mm_Mo_moved.2.1 6 = .ok (.ifCond .le 13, 3) := by decide +kernel
theorem d_Mo_moved_9 : decode mm_Mo_moved.2.1 9 = .ok (.aload_n 0, 1) := by decide +kernel
theorem d_Mo_moved_10 : decode mm_Mo_moved.2.1 10 = .ok (.getfield 101, 3) := by decide +kernel
theorem d_Mo_moved_13 : decode mm_Mo_moved.2.1 13 = .ok (.iconst 0, 1) := by decide +kernel
theorem d_Mo_moved_14 : decode mm_Mo_moved.2.1 14 = .ok (.iaload, 1) := by decide +kernel
theorem d_Mo_moved_15 : decode mm_Mo_moved.2.1 15 = .ok (.iload_n 1, 1) := by decide +kernel
theorem d_Mo_moved_16 : decode mm_Mo_moved.2.1 16 = .ok (.if_icmp .eq 22, 3) := by decide +kernel
theorem d_Mo_moved_19 : decode mm_Mo_moved.2.1 19 = .ok (.aload_n 0, 1) := by decide +kernel
theorem d_Mo_moved_20 : decode mm_Mo_moved.2.1 20 = .ok (.getfield 98, 3) := by decide +kernel
theorem d_Mo_moved_23 : decode mm_Mo_moved.2.1 23 = .ok (.iconst 1, 1) := by decide +kernel
theorem d_Mo_moved_24 : decode mm_Mo_moved.2.1 24 = .ok (.iaload, 1) := by decide +kernel
theorem d_Mo_moved_25 : decode mm_Mo_moved.2.1 25 = .ok (.ifCond .le 17, 3) := by decide +kernel
theorem d_Mo_moved_28 : decode mm_Mo_moved.2.1 28 = .ok (.aload_n 0, 1) := by decide +kernel
theorem d_Mo_moved_29 : decode mm_Mo_moved.2.1 29 = .ok (.getfield 101, 3) := by decide +kernel
theorem d_Mo_moved_32 : decode mm_Mo_moved.2.1 32 = .ok (.iconst 1, 1) := by decide +kernel
theorem d_Mo_moved_33 : decode mm_Mo_moved.2.1 33 = .ok (.iaload, 1) := by decide +kernel
theorem d_Mo_moved_34 : decode mm_Mo_moved.2.1 34 = .ok (.iload_n 1, 1) := by decide +kernel
theorem d_Mo_moved_35 : decode mm_Mo_moved.2.1 35 = .ok (.if_icmp .ne 7, 3) := by decide +kernel
theorem d_Mo_moved_38 : decode mm_Mo_moved.2.1 38 = .ok (.iconst 1, 1) := by decide +kernel
theorem d_Mo_moved_39 : decode mm_Mo_moved.2.1 39 = .ok (.goto 4, 3) := by decide +kernel
theorem d_Mo_moved_42 : decode mm_Mo_moved.2.1 42 = .ok (.iconst 0, 1) := by decide +kernel
theorem d_Mo_moved_43 : decode mm_Mo_moved.2.1 43 = .ok (.ireturn, 1) := by decide +kernel
def wp_Mo_moved_19   (K : Int32 → MzM → Prop) (y1 : Int32) (M : MzM) : Prop := (((mz_i M (53, 0) 1) ≤ 0 → K (0 : Int32) M) ∧ (¬ (mz_i M (53, 0) 1) ≤ 0 → ((¬ (mz_i M (54, 0) 1) = y1 → K (0 : Int32) M) ∧ ((mz_i M (54, 0) 1) = y1 → K (1 : Int32) M))))
def wp_Mo_moved  (a1 : Int32) (M : MzM) (K : Int32 → MzM → Prop) : Prop := (((mz_i M (53, 0) 0) ≤ 0 → wp_Mo_moved_19   K a1 M) ∧ (¬ (mz_i M (53, 0) 0) ≤ 0 → (((mz_i M (54, 0) 0) = a1 → K (1 : Int32) M) ∧ (¬ (mz_i M (54, 0) 0) = a1 → wp_Mo_moved_19   K a1 M))))
theorem tm_Mo_moved_19 {G : MzG} {B : MzB} {d : Nat} {K : Int32 → MzM → Prop} (hF : mzLive true B)     (y1 : Int32) (M : MzM) (hL : mzLnk true M) (h : wp_Mo_moved_19   K y1 M) : MzS G B d mm_Mo_moved M (0, 0) (mzK1 true B K) 19 [(0, .ref (mz_ad B (30, 0))), (1, .int y1)] [] := by
  unfold wp_Mo_moved_19 at h
  exact (mz_aload_n d_Mo_moved_19 rfl (mz_getR (k := 23) (a := (53, 0)) cl_10 d_Mo_moved_20 (by decide) wf_Mo_98 rfl (hF 30 0 rfl (by decide)) rfl (hL (30, 0) 23 (53, 0) rfl rfl (by decide)) (mz_iconst (1 : Int32) d_Mo_moved_23 (by decide) (mz_iald 1 d_Mo_moved_24 (hF 53 0 rfl (by decide)) rfl (by decide) (by decide) (mz_if_le 42 d_Mo_moved_25 rfl (fun hc4 => (mz_iconst (0 : Int32) d_Mo_moved_42 (by decide) (mz_iret .boolean d_Mo_moved_43 rfl rfl ⟨rfl, hL, _, rfl, (h.1 hc4)⟩))) (fun hc4 => (mz_aload_n d_Mo_moved_28 rfl (mz_getR (k := 24) (a := (54, 0)) cl_10 d_Mo_moved_29 (by decide) wf_Mo_101 rfl (hF 30 0 rfl (by decide)) rfl (hL (30, 0) 24 (54, 0) rfl rfl (by decide)) (mz_iconst (1 : Int32) d_Mo_moved_32 (by decide) (mz_iald 1 d_Mo_moved_33 (hF 54 0 rfl (by decide)) rfl (by decide) (by decide) (mz_iload_n d_Mo_moved_34 rfl (mz_icmp_ne 42 d_Mo_moved_35 rfl (fun hc3 => (mz_iconst (0 : Int32) d_Mo_moved_42 (by decide) (mz_iret .boolean d_Mo_moved_43 rfl rfl ⟨rfl, hL, _, rfl, ((h.2 hc4).1 hc3)⟩))) (fun hc3 => (mz_iconst (1 : Int32) d_Mo_moved_38 (by decide) (mz_goto 43 d_Mo_moved_39 rfl (mz_iret .boolean d_Mo_moved_43 rfl rfl ⟨rfl, hL, _, rfl, ((h.2 hc4).2 hc3)⟩))))))))))))))))
theorem tm_Mo_moved {G : MzG} {B : MzB} {d : Nat} {K : Int32 → MzM → Prop} (hF : mzLive true B)   {a1 : Int32} {M : MzM} (hL : mzLnk true M) (h : wp_Mo_moved  a1 M K) : MzC G B d mm_Mo_moved [.ref (mz_ad B (30, 0)), .int a1] M (0, 0) (mzK1 true B K) := by
  unfold wp_Mo_moved at h
  exact MzC.of rfl (Nat.le_of_ble_eq_true rfl) (show MzS G B d mm_Mo_moved M (0, 0) (mzK1 true B K) 0 [(0, .ref (mz_ad B (30, 0))), (1, .int a1)] [] from (mz_aload_n d_Mo_moved_0 rfl (mz_getR (k := 23) (a := (53, 0)) cl_10 d_Mo_moved_1 (by decide) wf_Mo_98 rfl (hF 30 0 rfl (by decide)) rfl (hL (30, 0) 23 (53, 0) rfl rfl (by decide)) (mz_iconst (0 : Int32) d_Mo_moved_4 (by decide) (mz_iald 0 d_Mo_moved_5 (hF 53 0 rfl (by decide)) rfl (by decide) (by decide) (mz_if_le 19 d_Mo_moved_6 rfl (fun hc2 => (MzS.loc [(0, .ref (mz_ad B (30, 0))), (1, .int a1)] ⟨rfl, rfl, trivial⟩ (tm_Mo_moved_19 hF   a1 M hL (h.1 hc2)))) (fun hc2 => (mz_aload_n d_Mo_moved_9 rfl (mz_getR (k := 24) (a := (54, 0)) cl_10 d_Mo_moved_10 (by decide) wf_Mo_101 rfl (hF 30 0 rfl (by decide)) rfl (hL (30, 0) 24 (54, 0) rfl rfl (by decide)) (mz_iconst (0 : Int32) d_Mo_moved_13 (by decide) (mz_iald 0 d_Mo_moved_14 (hF 54 0 rfl (by decide)) rfl (by decide) (by decide) (mz_iload_n d_Mo_moved_15 rfl (mz_icmp_eq 38 d_Mo_moved_16 rfl (fun hc1 => (mz_iconst (1 : Int32) d_Mo_moved_38 (by decide) (mz_goto 43 d_Mo_moved_39 rfl (mz_iret .boolean d_Mo_moved_43 rfl rfl ⟨rfl, hL, _, rfl, ((h.2 hc2).1 hc1)⟩)))) (fun hc1 => (MzS.loc [(0, .ref (mz_ad B (30, 0))), (1, .int a1)] ⟨rfl, rfl, trivial⟩ (tm_Mo_moved_19 hF   a1 M hL ((h.2 hc2).2 hc1)))))))))))))))))
def mm_Mo_create : MzT := (⟨"ParcelLineModel", "create", "(IZ)V"⟩, prog_14_method_43_code, 3, (Option.none : Option Jvm.ClassFile.FieldType))
theorem cs_Mo_create {mm : MzT} : mzCall mm mm_Mo_create 2 := ⟨wn_Mo, wco_Mo_create, by decide +kernel, by decide⟩
theorem d_Mo_create_0 : decode mm_Mo_create.2.1 0 = .ok (.aload_n 0, 1) := by decide +kernel
theorem d_Mo_create_1 : decode mm_Mo_create.2.1 1 = .ok (.getfield 34, 3) := by decide +kernel
theorem d_Mo_create_4 : decode mm_Mo_create.2.1 4 = .ok (.iload_n 1, 1) := by decide +kernel
theorem d_Mo_create_5 : decode mm_Mo_create.2.1 5 = .ok (.iconst 1, 1) := by decide +kernel
theorem d_Mo_create_6 : decode mm_Mo_create.2.1 6 = .ok (.bastore, 1) := by decide +kernel
theorem d_Mo_create_7 : decode mm_Mo_create.2.1 7 = .ok (.aload_n 0, 1) := by decide +kernel
theorem d_Mo_create_8 : decode mm_Mo_create.2.1 8 = .ok (.getfield 38, 3) := by decide +kernel
theorem d_Mo_create_11 : decode mm_Mo_create.2.1 11 = .ok (.iload_n 1, 1) := by decide +kernel
theorem d_Mo_create_12 : decode mm_Mo_create.2.1 12 = .ok (.iload_n 2, 1) := by decide +kernel
theorem d_Mo_create_13 : decode mm_Mo_create.2.1 13 = .ok (.bastore, 1) := by decide +kernel
theorem d_Mo_create_14 : decode mm_Mo_create.2.1 14 = .ok (.aload_n 0, 1) := by decide +kernel
theorem d_Mo_create_15 : decode mm_Mo_create.2.1 15 = .ok (.getfield 41, 3) := by decide +kernel
theorem d_Mo_create_18 : decode mm_Mo_create.2.1 18 = .ok (.iload_n 1, 1) := by decide +kernel
theorem d_Mo_create_19 : decode mm_Mo_create.2.1 19 = .ok (.aload_n 0, 1) := by decide +kernel
theorem d_Mo_create_20 : decode mm_Mo_create.2.1 20 = .ok (.getfield 252, 3) := by decide +kernel
theorem d_Mo_create_23 : decode mm_Mo_create.2.1 23 = .ok (.iastore, 1) := by decide +kernel
theorem d_Mo_create_24 : decode mm_Mo_create.2.1 24 = .ok (.aload_n 0, 1) := by decide +kernel
theorem d_Mo_create_25 : decode mm_Mo_create.2.1 25 = .ok (.getfield 44, 3) := by decide +kernel
theorem d_Mo_create_28 : decode mm_Mo_create.2.1 28 = .ok (.iload_n 1, 1) := by decide +kernel
theorem d_Mo_create_29 : decode mm_Mo_create.2.1 29 = .ok (.aload_n 0, 1) := by decide +kernel
theorem d_Mo_create_30 : decode mm_Mo_create.2.1 30 = .ok (.getfield 258, 3) := by decide +kernel
theorem d_Mo_create_33 : decode mm_Mo_create.2.1 33 = .ok (.iastore, 1) := by decide +kernel
theorem d_Mo_create_34 : decode mm_Mo_create.2.1 34 = .ok (.aload_n 0, 1) := by decide +kernel
theorem d_Mo_create_35 : decode mm_Mo_create.2.1 35 = .ok (.getfield 47, 3) := by decide +kernel
theorem d_Mo_create_38 : decode mm_Mo_create.2.1 38 = .ok (.iload_n 1, 1) := by decide +kernel
theorem d_Mo_create_39 : decode mm_Mo_create.2.1 39 = .ok (.iconst 0, 1) := by decide +kernel
theorem d_Mo_create_40 : decode mm_Mo_create.2.1 40 = .ok (.iastore, 1) := by decide +kernel
theorem d_Mo_create_41 : decode mm_Mo_create.2.1 41 = .ok (.aload_n 0, 1) := by decide +kernel
theorem d_Mo_create_42 : decode mm_Mo_create.2.1 42 = .ok (.getfield 50, 3) := by decide +kernel
theorem d_Mo_create_45 : decode mm_Mo_create.2.1 45 = .ok (.iload_n 1, 1) := by decide +kernel
theorem d_Mo_create_46 : decode mm_Mo_create.2.1 46 = .ok (.iload_n 2, 1) := by decide +kernel
theorem d_Mo_create_47 : decode mm_Mo_create.2.1 47 = .ok (.ifCond .ne 7, 3) := by decide +kernel
theorem d_Mo_create_50 : decode mm_Mo_create.2.1 50 = .ok (.iconst 1, 1) := by decide +kernel
theorem d_Mo_create_51 : decode mm_Mo_create.2.1 51 = .ok (.goto 4, 3) := by decide +kernel
theorem d_Mo_create_54 : decode mm_Mo_create.2.1 54 = .ok (.iconst 0, 1) := by decide +kernel
theorem d_Mo_create_55 : decode mm_Mo_create.2.1 55 = .ok (.bastore, 1) := by decide +kernel
theorem d_Mo_create_56 : decode mm_Mo_create.2.1 56 = .ok (.return_, 1) := by decide +kernel
def wp_Mo_create  (a1 : Int32) (a2 : Int32) (M : MzM) (K : MzM → Prop) : Prop := (∃ j4 : Nat, a1.toInt = (j4 : Int) ∧ j4 < 16 ∧ ∀ M1 : MzM, M1 = mz_si M (32, 0) j4 (1 : Int32) → ((a2 = 0 ∨ a2 = 1) ∧ ∃ j10 : Nat, a1.toInt = (j10 : Int) ∧ j10 < 16 ∧ ∀ M7 : MzM, M7 = mz_si M1 (33, 0) j10 a2 → (∃ j16 : Nat, a1.toInt = (j16 : Int) ∧ j16 < 16 ∧ ∀ M13 : MzM, M13 = mz_si M7 (34, 0) j16 (mz_i M7 (30, 0) 34) → (∃ j22 : Nat, a1.toInt = (j22 : Int) ∧ j22 < 16 ∧ ∀ M19 : MzM, M19 = mz_si M13 (35, 0) j22 (mz_i M13 (30, 0) 35) → (∃ j28 : Nat, a1.toInt = (j28 : Int) ∧ j28 < 16 ∧ ∀ M25 : MzM, M25 = mz_si M19 (36, 0) j28 (0 : Int32) → ((¬ a2 = 0 → (∃ j34 : Nat, a1.toInt = (j34 : Int) ∧ j34 < 16 ∧ ∀ M31 : MzM, M31 = mz_si M25 (37, 0) j34 (0 : Int32) → K M31)) ∧ (a2 = 0 → (∃ j40 : Nat, a1.toInt = (j40 : Int) ∧ j40 < 16 ∧ ∀ M37 : MzM, M37 = mz_si M25 (37, 0) j40 (1 : Int32) → K M37))))))))
theorem tm_Mo_create {G : MzG} {B : MzB} {d : Nat} {K : MzM → Prop} (hF : mzLive true B)   {a1 : Int32} {a2 : Int32} {M : MzM} (hL : mzLnk true M) (h : wp_Mo_create  a1 a2 M K) : MzC G B d mm_Mo_create [.ref (mz_ad B (30, 0)), .int a1, .int a2] M (0, 0) (mzK0 true B K) := by
  unfold wp_Mo_create at h
  exact MzC.of rfl (Nat.le_of_ble_eq_true rfl) (show MzS G B d mm_Mo_create M (0, 0) (mzK0 true B K) 0 [(0, .ref (mz_ad B (30, 0))), (1, .int a1), (2, .int a2)] [] from (mz_aload_n d_Mo_create_0 rfl (mz_getR (k := 2) (a := (32, 0)) cl_10 d_Mo_create_1 (by decide) wf_Mo_34 rfl (hF 30 0 rfl (by decide)) rfl (hL (30, 0) 2 (32, 0) rfl rfl (by decide)) (mz_iload_n d_Mo_create_4 rfl (mz_iconst (1 : Int32) d_Mo_create_5 (by decide) (match h with | ⟨j4, h5, h6, h3⟩ => mz_zast j4 d_Mo_create_6 (hF 32 0 rfl (by decide)) rfl h5 h6 (by decide) (let M1 : MzM := mz_si M (32, 0) j4 (1 : Int32); (mz_aload_n d_Mo_create_7 rfl (mz_getR (k := 3) (a := (33, 0)) cl_10 d_Mo_create_8 (by decide) wf_Mo_38 rfl (hF 30 0 rfl (by decide)) rfl (hL (30, 0) 3 (33, 0) rfl rfl (by decide)) (mz_iload_n d_Mo_create_11 rfl (mz_iload_n d_Mo_create_12 rfl (match (h3 M1 rfl) with | ⟨hb8, j10, h11, h12, h9⟩ => mz_zast j10 d_Mo_create_13 (hF 33 0 rfl (by decide)) rfl h11 h12 (mz_boN hb8) (let M7 : MzM := mz_si M1 (33, 0) j10 a2; (mz_aload_n d_Mo_create_14 rfl (mz_getR (k := 4) (a := (34, 0)) cl_10 d_Mo_create_15 (by decide) wf_Mo_41 rfl (hF 30 0 rfl (by decide)) rfl (hL (30, 0) 4 (34, 0) rfl rfl (by decide)) (mz_iload_n d_Mo_create_18 rfl (mz_aload_n d_Mo_create_19 rfl (mz_getI (k := 34) cl_10 d_Mo_create_20 (by decide) wf_Mo_252 rfl (hF 30 0 rfl (by decide)) rfl (match (h9 M7 rfl) with | ⟨j16, h17, h18, h15⟩ => mz_iast j16 d_Mo_create_23 (hF 34 0 rfl (by decide)) rfl h17 h18 (let M13 : MzM := mz_si M7 (34, 0) j16 (mz_i M7 (30, 0) 34); (mz_aload_n d_Mo_create_24 rfl (mz_getR (k := 5) (a := (35, 0)) cl_10 d_Mo_create_25 (by decide) wf_Mo_44 rfl (hF 30 0 rfl (by decide)) rfl (hL (30, 0) 5 (35, 0) rfl rfl (by decide)) (mz_iload_n d_Mo_create_28 rfl (mz_aload_n d_Mo_create_29 rfl (mz_getI (k := 35) cl_10 d_Mo_create_30 (by decide) wf_Mo_258 rfl (hF 30 0 rfl (by decide)) rfl (match (h15 M13 rfl) with | ⟨j22, h23, h24, h21⟩ => mz_iast j22 d_Mo_create_33 (hF 35 0 rfl (by decide)) rfl h23 h24 (let M19 : MzM := mz_si M13 (35, 0) j22 (mz_i M13 (30, 0) 35); (mz_aload_n d_Mo_create_34 rfl (mz_getR (k := 6) (a := (36, 0)) cl_10 d_Mo_create_35 (by decide) wf_Mo_47 rfl (hF 30 0 rfl (by decide)) rfl (hL (30, 0) 6 (36, 0) rfl rfl (by decide)) (mz_iload_n d_Mo_create_38 rfl (mz_iconst (0 : Int32) d_Mo_create_39 (by decide) (match (h21 M19 rfl) with | ⟨j28, h29, h30, h27⟩ => mz_iast j28 d_Mo_create_40 (hF 36 0 rfl (by decide)) rfl h29 h30 (let M25 : MzM := mz_si M19 (36, 0) j28 (0 : Int32); (mz_aload_n d_Mo_create_41 rfl (mz_getR (k := 7) (a := (37, 0)) cl_10 d_Mo_create_42 (by decide) wf_Mo_50 rfl (hF 30 0 rfl (by decide)) rfl (hL (30, 0) 7 (37, 0) rfl rfl (by decide)) (mz_iload_n d_Mo_create_45 rfl (mz_iload_n d_Mo_create_46 rfl (mz_if_ne 54 d_Mo_create_47 rfl (fun hc43 => (mz_iconst (0 : Int32) d_Mo_create_54 (by decide) (match ((h27 M25 rfl).1 hc43) with | ⟨j34, h35, h36, h33⟩ => mz_zast j34 d_Mo_create_55 (hF 37 0 rfl (by decide)) rfl h35 h36 (by decide) (let M31 : MzM := mz_si M25 (37, 0) j34 (0 : Int32); (mz_vret d_Mo_create_56 rfl ⟨rfl, hL, rfl, (h33 M31 rfl)⟩))))) (fun hc43 => (mz_iconst (1 : Int32) d_Mo_create_50 (by decide) (mz_goto 55 d_Mo_create_51 rfl (match ((h27 M25 rfl).2 hc43) with | ⟨j40, h41, h42, h39⟩ => mz_zast j40 d_Mo_create_55 (hF 37 0 rfl (by decide)) rfl h41 h42 (by decide) (let M37 : MzM := mz_si M25 (37, 0) j40 (1 : Int32); (mz_vret d_Mo_create_56 rfl ⟨rfl, hL, rfl, (h39 M37 rfl)⟩))))))))))))))))))))))))))))))))))))))))))))
