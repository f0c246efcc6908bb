def mm_PL_node : MzT := (⟨"ParcelLine", "node", "(II)I"⟩, prog_1_method_10_code, 4, (Option.some Jvm.ClassFile.FieldType.int))
theorem cs_PL_node {mm : MzT} : mzCall mm mm_PL_node 2 := ⟨wn_PL, wco_PL_node, by decide +kernel, by decide⟩
theorem d_PL_node_0 : decode mm_PL_node.2.1 0 = .ok (.aload_n 0, 1) := by decide +kernel
theorem d_PL_node_1 : decode mm_PL_node.2.1 1 = .ok (.getfield 12, 3) := by decide +kernel
theorem d_PL_node_4 : decode mm_PL_node.2.1 4 = .ok (.iload_n 1, 1) := by decide +kernel
theorem d_PL_node_5 : decode mm_PL_node.2.1 5 = .ok (.invokevirtual 113, 3) := by decide +kernel
theorem d_PL_node_8 : decode mm_PL_node.2.1 8 = .ok (.ifCond .ne 5, 3) := by decide +kernel
theorem d_PL_node_11 : decode mm_PL_node.2.1 11 = .ok (.iconst (-1), 1) := by decide +kernel
theorem d_PL_node_12 : decode mm_PL_node.2.1 12 = .ok (.ireturn, 1) := by decide +kernel
theorem d_PL_node_13 : decode mm_PL_node.2.1 13 = .ok (.aload_n 0, 1) := by decide +kernel
theorem d_PL_node_14 : decode mm_PL_node.2.1 14 = .ok (.getfield 12, 3) := by decide +kernel
theorem d_PL_node_17 : decode mm_PL_node.2.1 17 = .ok (.getfield 116, 3) := by decide +kernel
theorem d_PL_node_20 : decode mm_PL_node.2.1 20 = .ok (.iload_n 1, 1) := by decide +kernel
theorem d_PL_node_21 : decode mm_PL_node.2.1 21 = .ok (.aaload, 1) := by decide +kernel
theorem d_PL_node_22 : decode mm_PL_node.2.1 22 = .ok (.astore_n 3, 1) := by decide +kernel
theorem d_PL_node_23 : decode mm_PL_node.2.1 23 = .ok (.iload_n 2, 1) := by decide +kernel
theorem d_PL_node_24 : decode mm_PL_node.2.1 24 = .ok (.tableswitch 91 0 3 #[32, 45, 59, 86], 32) := by decide +kernel
theorem d_PL_node_56 : decode mm_PL_node.2.1 56 = .ok (.iload_n 1, 1) := by decide +kernel
theorem d_PL_node_57 : decode mm_PL_node.2.1 57 = .ok (.ifCond .ne 7, 3) := by decide +kernel
theorem d_PL_node_60 : decode mm_PL_node.2.1 60 = .ok (.iconst (-1), 1) := by decide +kernel
theorem d_PL_node_61 : decode mm_PL_node.2.1 61 = .ok (.goto 7, 3) := by decide +kernel
theorem d_PL_node_64 : decode mm_PL_node.2.1 64 = .ok (.aload_n 3, 1) := by decide +kernel
theorem d_PL_node_65 : decode mm_PL_node.2.1 65 = .ok (.getfield 120, 3) := by decide +kernel
theorem d_PL_node_68 : decode mm_PL_node.2.1 68 = .ok (.ireturn, 1) := by decide +kernel
theorem d_PL_node_69 : decode mm_PL_node.2.1 69 = .ok (.aload_n 3, 1) := by decide +kernel
theorem d_PL_node_70 : decode mm_PL_node.2.1 70 = .ok (.getfield 125, 3) := by decide +kernel
theorem d_PL_node_73 : decode mm_PL_node.2.1 73 = .ok (.iconst 2, 1) := by decide +kernel
theorem d_PL_node_74 : decode mm_PL_node.2.1 74 = .ok (.if_icmp .ne 7, 3) := by decide +kernel
theorem d_PL_node_77 : decode mm_PL_node.2.1 77 = .ok (.iconst 1, 1) := by decide +kernel
theorem d_PL_node_78 : decode mm_PL_node.2.1 78 = .ok (.goto 4, 3) := by decide +kernel
theorem d_PL_node_81 : decode mm_PL_node.2.1 81 = .ok (.iconst 0, 1) := by decide +kernel
theorem d_PL_node_82 : decode mm_PL_node.2.1 82 = .ok (.ireturn, 1) := by decide +kernel
theorem d_PL_node_83 : decode mm_PL_node.2.1 83 = .ok (.aload_n 3, 1) := by decide +kernel
theorem d_PL_node_84 : decode mm_PL_node.2.1 84 = .ok (.getfield 125, 3) := by decide +kernel
theorem d_PL_node_87 : decode mm_PL_node.2.1 87 = .ok (.iconst 2, 1) := by decide +kernel
theorem d_PL_node_88 : decode mm_PL_node.2.1 88 = .ok (.if_icmp .ne 13, 3) := by decide +kernel
theorem d_PL_node_91 : decode mm_PL_node.2.1 91 = .ok (.aload_n 3, 1) := by decide +kernel
theorem d_PL_node_92 : decode mm_PL_node.2.1 92 = .ok (.getfield 128, 3) := by decide +kernel
theorem d_PL_node_95 : decode mm_PL_node.2.1 95 = .ok (.getfield 132, 3) := by decide +kernel
theorem d_PL_node_98 : decode mm_PL_node.2.1 98 = .ok (.goto 11, 3) := by decide +kernel
theorem d_PL_node_101 : decode mm_PL_node.2.1 101 = .ok (.aload_n 0, 1) := by decide +kernel
theorem d_PL_node_102 : decode mm_PL_node.2.1 102 = .ok (.getfield 12, 3) := by decide +kernel
theorem d_PL_node_105 : decode mm_PL_node.2.1 105 = .ok (.iload_n 1, 1) := by decide +kernel
theorem d_PL_node_106 : decode mm_PL_node.2.1 106 = .ok (.invokevirtual 133, 3) := by decide +kernel
theorem d_PL_node_109 : decode mm_PL_node.2.1 109 = .ok (.ireturn, 1) := by decide +kernel
theorem d_PL_node_110 : decode mm_PL_node.2.1 110 = .ok (.aload_n 3, 1) := by decide +kernel
theorem d_PL_node_111 : decode mm_PL_node.2.1 111 = .ok (.getfield 137, 3) := by decide +kernel
theorem d_PL_node_114 : decode mm_PL_node.2.1 114 = .ok (.ireturn, 1) := by decide +kernel
theorem d_PL_node_115 : decode mm_PL_node.2.1 115 = .ok (.iconst (-1), 1) := by decide +kernel
theorem d_PL_node_116 : decode mm_PL_node.2.1 116 = .ok (.ireturn, 1) := by decide +kernel
def wp_PL_node  (a1 : Int32) (a2 : Int32) (M : MzM) (K : Int32 → MzM → Prop) : Prop := wp_Store_isThere  a1 M (fun v4 M1 => ((¬ v4 = 0 → (∃ j5 : Nat, a1.toInt = (j5 : Int) ∧ j5 < 16 ∧ ((a2 = (0 : Int32) → ((¬ a1 = 0 → K (mz_i M1 (3, j5) 2) M1) ∧ (a1 = 0 → K (-1 : Int32) M1))) ∧ (a2 = (1 : Int32) → ((¬ (mz_i M1 (3, j5) 1) = (2 : Int32) → K (0 : Int32) M1) ∧ ((mz_i M1 (3, j5) 1) = (2 : Int32) → K (1 : Int32) M1))) ∧ (a2 = (2 : Int32) → ((¬ (mz_i M1 (3, j5) 1) = (2 : Int32) → wp_Store_countIn  a1 M1 (fun v14 M11 => K v14 M11)) ∧ ((mz_i M1 (3, j5) 1) = (2 : Int32) → K (mz_i M1 (4, j5) 1) M1))) ∧ (a2 = (3 : Int32) → K (mz_i M1 (3, j5) 3) M1) ∧ (¬ a2 = (0 : Int32) → ¬ a2 = (1 : Int32) → ¬ a2 = (2 : Int32) → ¬ a2 = (3 : Int32) → K (-1 : Int32) M1)))) ∧ (v4 = 0 → K (-1 : Int32) M1)))
theorem tm_PL_node {G : MzG} {B : MzB} {d : Nat} {K : Int32 → MzM → Prop} (hF : mzLive false B)   {a1 : Int32} {a2 : Int32} {M : MzM} (hL : mzLnk false M) (h : wp_PL_node  a1 a2 M K) : MzC G B (d + 2) mm_PL_node [.ref (mz_ad B (0, 0)), .int a1, .int a2] M (0, 0) (mzK1 false B K) := by
  unfold wp_PL_node at h
  exact MzC.of rfl (Nat.le_of_ble_eq_true rfl) (show MzS G B (d + 2) mm_PL_node M (0, 0) (mzK1 false B K) 0 [(0, .ref (mz_ad B (0, 0))), (1, .int a1), (2, .int a2)] [] from (mz_aload_n d_PL_node_0 rfl (mz_getR (k := 0) (a := (1, 0)) cl_0 d_PL_node_1 (by decide) wf_PL_12 rfl (hF 0 0 rfl (by decide)) rfl (hL (0, 0) 0 (1, 0) rfl rfl (by decide)) (mz_iload_n d_PL_node_4 rfl (mz_callV (As := [.int a1]) (st := []) (hF 1 0 rfl (by decide)) rfl (mzClOf cl_1) 0 0 d_PL_node_5 cs_Store_isThere wl_PL_113 wi_Store_isThere wse_Store_isThere (Nat.le_of_ble_eq_true rfl) (Nat.zero_le _) (Nat.zero_le _) (MzC.mono (tm_Store_isThere (d := (d + 1)) hF  hL h) (fun r9 B9 M1 hq3 => by obtain ⟨rfl, hL2, v4, rfl, hq3⟩ := hq3; exact ⟨_, rfl, (mz_if_ne 13 d_PL_node_8 rfl (fun hc17 => (mz_aload_n d_PL_node_13 rfl (mz_getR (k := 0) (a := (1, 0)) cl_0 d_PL_node_14 (by decide) wf_PL_12 rfl (hF 0 0 rfl (by decide)) rfl (hL2 (0, 0) 0 (1, 0) rfl rfl (by decide)) (mz_getRN (k := 0) (a := (2, 0)) cl_1 d_PL_node_17 (by decide) wf_PL_116 rfl (hF 1 0 rfl (by decide)) rfl (hL2 (1, 0) 0 (2, 0) rfl rfl (by decide)) (mz_iload_n d_PL_node_20 rfl (match (hq3.1 hc17) with | ⟨j5, h6, h7, h8⟩ => mz_aald (a := (3, j5)) j5 d_PL_node_21 (hF 2 0 rfl (by decide)) rfl h6 h7 (hL2 (2, 0) j5 (3, j5) rfl (mzLk_2 h7) (by decide)) (mz_astore_n d_PL_node_22 (by decide) (mz_iload_n d_PL_node_23 rfl (Decidable.byCases (fun he16_0 : a2 = (0 : Int32) => mz_tabIn 56 d_PL_node_24 (by rw [he16_0]; decide) (by rw [he16_0]; decide) (by rw [he16_0]; rfl) rfl (mz_iload_n d_PL_node_56 rfl (mz_if_ne 64 d_PL_node_57 rfl (fun hc9 => (mz_aload_n d_PL_node_64 rfl (mz_getIN (k := 2) cl_2 d_PL_node_65 (by decide) wf_PL_120 rfl (hF 3 j5 rfl h7) rfl (mz_iret .int d_PL_node_68 rfl rfl ⟨rfl, hL2, _, rfl, ((h8.1 he16_0).1 hc9)⟩)))) (fun hc9 => (mz_iconst (-1 : Int32) d_PL_node_60 (by decide) (mz_goto 68 d_PL_node_61 rfl (mz_iret .int d_PL_node_68 rfl rfl ⟨rfl, hL2, _, rfl, ((h8.1 he16_0).2 hc9)⟩))))))) (fun he16n_0 => (Decidable.byCases (fun he16_1 : a2 = (1 : Int32) => mz_tabIn 69 d_PL_node_24 (by rw [he16_1]; decide) (by rw [he16_1]; decide) (by rw [he16_1]; rfl) rfl (mz_aload_n d_PL_node_69 rfl (mz_getIN (k := 1) cl_2 d_PL_node_70 (by decide) wf_PL_125 rfl (hF 3 j5 rfl h7) rfl (mz_iconst (2 : Int32) d_PL_node_73 (by decide) (mz_icmp_ne 81 d_PL_node_74 rfl (fun hc10 => (mz_iconst (0 : Int32) d_PL_node_81 (by decide) (mz_iret .int d_PL_node_82 rfl rfl ⟨rfl, hL2, _, rfl, ((h8.2.1 he16_1).1 hc10)⟩))) (fun hc10 => (mz_iconst (1 : Int32) d_PL_node_77 (by decide) (mz_goto 82 d_PL_node_78 rfl (mz_iret .int d_PL_node_82 rfl rfl ⟨rfl, hL2, _, rfl, ((h8.2.1 he16_1).2 hc10)⟩))))))))) (fun he16n_1 => (Decidable.byCases (fun he16_2 : a2 = (2 : Int32) => mz_tabIn 83 d_PL_node_24 (by rw [he16_2]; decide) (by rw [he16_2]; decide) (by rw [he16_2]; rfl) rfl (mz_aload_n d_PL_node_83 rfl (mz_getIN (k := 1) cl_2 d_PL_node_84 (by decide) wf_PL_125 rfl (hF 3 j5 rfl h7) rfl (mz_iconst (2 : Int32) d_PL_node_87 (by decide) (mz_icmp_ne 101 d_PL_node_88 rfl (fun hc15 => (mz_aload_n d_PL_node_101 rfl (mz_getR (k := 0) (a := (1, 0)) cl_0 d_PL_node_102 (by decide) wf_PL_12 rfl (hF 0 0 rfl (by decide)) rfl (hL2 (0, 0) 0 (1, 0) rfl rfl (by decide)) (mz_iload_n d_PL_node_105 rfl (mz_callV (As := [.int a1]) (st := []) (hF 1 0 rfl (by decide)) rfl (mzClOf cl_1) 0 0 d_PL_node_106 cs_Store_countIn wl_PL_133 wi_Store_countIn wse_Store_countIn (Nat.le_of_ble_eq_true rfl) (Nat.zero_le _) (Nat.zero_le _) (MzC.mono (tm_Store_countIn (d := d) hF  hL2 ((h8.2.2.1 he16_2).1 hc15)) (fun r9 B9 M11 hq13 => by obtain ⟨rfl, hL12, v14, rfl, hq13⟩ := hq13; exact ⟨_, rfl, (mz_iret .int d_PL_node_109 rfl rfl ⟨rfl, hL12, _, rfl, hq13⟩)⟩))))))) (fun hc15 => (mz_aload_n d_PL_node_91 rfl (mz_getRN (k := 0) (a := (4, j5)) cl_2 d_PL_node_92 (by decide) wf_PL_128 rfl (hF 3 j5 rfl h7) rfl (hL2 (3, j5) 0 (4, j5) rfl rfl h7) (mz_getIN (k := 1) cl_3 d_PL_node_95 (by decide) wf_PL_132 rfl (hF 4 j5 rfl h7) rfl (mz_goto 109 d_PL_node_98 rfl (mz_iret .int d_PL_node_109 rfl rfl ⟨rfl, hL2, _, rfl, ((h8.2.2.1 he16_2).2 hc15)⟩))))))))))) (fun he16n_2 => (Decidable.byCases (fun he16_3 : a2 = (3 : Int32) => mz_tabIn 110 d_PL_node_24 (by rw [he16_3]; decide) (by rw [he16_3]; decide) (by rw [he16_3]; rfl) rfl (mz_aload_n d_PL_node_110 rfl (mz_getIN (k := 3) cl_2 d_PL_node_111 (by decide) wf_PL_137 rfl (hF 3 j5 rfl h7) rfl (mz_iret .int d_PL_node_114 rfl rfl ⟨rfl, hL2, _, rfl, (h8.2.2.2.1 he16_3)⟩)))) (fun he16n_3 => mz_tabOut 115 d_PL_node_24 (show a2.toInt < 0 ∨ 3 < a2.toInt by have := lv_neT he16n_0 (show (0 : Int32).toInt = 0 by decide); have := lv_neT he16n_1 (show (1 : Int32).toInt = 1 by decide); have := lv_neT he16n_2 (show (2 : Int32).toInt = 2 by decide); have := lv_neT he16n_3 (show (3 : Int32).toInt = 3 by decide); omega) rfl (mz_iconst (-1 : Int32) d_PL_node_115 (by decide) (mz_iret .int d_PL_node_116 rfl rfl ⟨rfl, hL2, _, rfl, (h8.2.2.2.2 he16n_0 he16n_1 he16n_2 he16n_3)⟩)))))))))))))))))) (fun hc17 => (mz_iconst (-1 : Int32) d_PL_node_11 (by decide) (mz_iret .int d_PL_node_12 rfl rfl ⟨rfl, hL2, _, rfl, (hq3.2 hc17)⟩))))⟩)))))))
def mm_PL_content : MzT := (⟨"ParcelLine", "content", "(II)I"⟩, prog_1_method_11_code, 3, (Option.some Jvm.ClassFile.FieldType.int))
theorem cs_PL_content {mm : MzT} : mzCall mm mm_PL_content 2 := ⟨wn_PL, wco_PL_content, by decide +kernel, by decide⟩
theorem d_PL_content_0 : decode mm_PL_content.2.1 0 = .ok (.aload_n 0, 1) := by decide +kernel
theorem d_PL_content_1 : decode mm_PL_content.2.1 1 = .ok (.getfield 12, 3) := by decide +kernel
theorem d_PL_content_4 : decode mm_PL_content.2.1 4 = .ok (.iload_n 1, 1) := by decide +kernel
theorem d_PL_content_5 : decode mm_PL_content.2.1 5 = .ok (.invokevirtual 140, 3) := by decide +kernel
theorem d_PL_content_8 : decode mm_PL_content.2.1 8 = .ok (.ifCond .eq 22, 3) := by decide +kernel
theorem d_PL_content_11 : decode mm_PL_content.2.1 11 = .ok (.aload_n 0, 1) := by decide +kernel
theorem d_PL_content_12 : decode mm_PL_content.2.1 12 = .ok (.getfield 12, 3) := by decide +kernel
theorem d_PL_content_15 : decode mm_PL_content.2.1 15 = .ok (.getfield 116, 3) := by decide +kernel
theorem d_PL_content_18 : decode mm_PL_content.2.1 18 = .ok (.iload_n 1, 1) := by decide +kernel
theorem d_PL_content_19 : decode mm_PL_content.2.1 19 = .ok (.aaload, 1) := by decide +kernel
theorem d_PL_content_20 : decode mm_PL_content.2.1 20 = .ok (.getfield 128, 3) := by decide +kernel
theorem d_PL_content_23 : decode mm_PL_content.2.1 23 = .ok (.iload_n 2, 1) := by decide +kernel
theorem d_PL_content_24 : decode mm_PL_content.2.1 24 = .ok (.invokevirtual 143, 3) := by decide +kernel
theorem d_PL_content_27 : decode mm_PL_content.2.1 27 = .ok (.goto 4, 3) := by decide +kernel
theorem d_PL_content_30 : decode mm_PL_content.2.1 30 = .ok (.iconst (-1), 1) := by decide +kernel
theorem d_PL_content_31 : decode mm_PL_content.2.1 31 = .ok (.ireturn, 1) := by decide +kernel
def wp_PL_content  (a1 : Int32) (a2 : Int32) (M : MzM) (K : Int32 → MzM → Prop) : Prop := wp_Store_isFile  a1 M (fun v4 M1 => ((v4 = 0 → K (-1 : Int32) M1) ∧ (¬ v4 = 0 → (∃ j5 : Nat, a1.toInt = (j5 : Int) ∧ j5 < 16 ∧ wp_Row_at j5 a2 M1 (fun v12 M9 => K v12 M9)))))
theorem tm_PL_content {G : MzG} {B : MzB} {d : Nat} {K : Int32 → MzM → Prop} (hF : mzLive false B)   {a1 : Int32} {a2 : Int32} {M : MzM} (hL : mzLnk false M) (h : wp_PL_content  a1 a2 M K) : MzC G B (d + 1) mm_PL_content [.ref (mz_ad B (0, 0)), .int a1, .int a2] M (0, 0) (mzK1 false B K) := by
  unfold wp_PL_content at h
  exact MzC.of rfl (Nat.le_of_ble_eq_true rfl) (show MzS G B (d + 1) mm_PL_content M (0, 0) (mzK1 false B K) 0 [(0, .ref (mz_ad B (0, 0))), (1, .int a1), (2, .int a2)] [] from (mz_aload_n d_PL_content_0 rfl (mz_getR (k := 0) (a := (1, 0)) cl_0 d_PL_content_1 (by decide) wf_PL_12 rfl (hF 0 0 rfl (by decide)) rfl (hL (0, 0) 0 (1, 0) rfl rfl (by decide)) (mz_iload_n d_PL_content_4 rfl (mz_callV (As := [.int a1]) (st := []) (hF 1 0 rfl (by decide)) rfl (mzClOf cl_1) 0 0 d_PL_content_5 cs_Store_isFile wl_PL_140 wi_Store_isFile wse_Store_isFile (Nat.le_of_ble_eq_true rfl) (Nat.zero_le _) (Nat.zero_le _) (MzC.mono (tm_Store_isFile (d := d) hF  hL h) (fun r9 B9 M1 hq3 => by obtain ⟨rfl, hL2, v4, rfl, hq3⟩ := hq3; exact ⟨_, rfl, (mz_if_eq 30 d_PL_content_8 rfl (fun hc13 => (mz_iconst (-1 : Int32) d_PL_content_30 (by decide) (mz_iret .int d_PL_content_31 rfl rfl ⟨rfl, hL2, _, rfl, (hq3.1 hc13)⟩))) (fun hc13 => (mz_aload_n d_PL_content_11 rfl (mz_getR (k := 0) (a := (1, 0)) cl_0 d_PL_content_12 (by decide) wf_PL_12 rfl (hF 0 0 rfl (by decide)) rfl (hL2 (0, 0) 0 (1, 0) rfl rfl (by decide)) (mz_getRN (k := 0) (a := (2, 0)) cl_1 d_PL_content_15 (by decide) wf_PL_116 rfl (hF 1 0 rfl (by decide)) rfl (hL2 (1, 0) 0 (2, 0) rfl rfl (by decide)) (mz_iload_n d_PL_content_18 rfl (match (hq3.2 hc13) with | ⟨j5, h6, h7, h8⟩ => mz_aald (a := (3, j5)) j5 d_PL_content_19 (hF 2 0 rfl (by decide)) rfl h6 h7 (hL2 (2, 0) j5 (3, j5) rfl (mzLk_2 h7) (by decide)) (mz_getRN (k := 0) (a := (4, j5)) cl_2 d_PL_content_20 (by decide) wf_PL_128 rfl (hF 3 j5 rfl h7) rfl (hL2 (3, j5) 0 (4, j5) rfl rfl h7) (mz_iload_n d_PL_content_23 rfl (mz_callV (As := [.int a2]) (st := []) (hF 4 j5 rfl h7) rfl (mzClOf cl_3) 0 0 d_PL_content_24 cs_Row_at wl_PL_143 wi_Row_at wse_Row_at (Nat.le_of_ble_eq_true rfl) (Nat.zero_le _) (Nat.zero_le _) (MzC.mono (tm_Row_at (d := d) hF h7 hL2 h8) (fun r9 B9 M9 hq11 => by obtain ⟨rfl, hL10, v12, rfl, hq11⟩ := hq11; exact ⟨_, rfl, (mz_goto 31 d_PL_content_27 rfl (mz_iret .int d_PL_content_31 rfl rfl ⟨rfl, hL10, _, rfl, hq11⟩))⟩))))))))))))⟩)))))))
def mm_PL_current : MzT := (⟨"ParcelLine", "current", "(I)I"⟩, prog_1_method_12_code, 2, (Option.some Jvm.ClassFile.FieldType.int))
theorem cs_PL_current {mm : MzT} : mzCall mm mm_PL_current 1 := ⟨wn_PL, wco_PL_current, by decide +kernel, by decide⟩
theorem d_PL_current_0 : decode mm_PL_current.2.1 0 = .ok (.iload_n 1, 1) := by decide +kernel
theorem d_PL_current_1 : decode mm_PL_current.2.1 1 = .ok (.invokestatic 41, 3) := by decide +kernel
theorem d_PL_current_4 : decode mm_PL_current.2.1 4 = .ok (.ifCond .eq 15, 3) := by decide +kernel
theorem d_PL_current_7 : decode mm_PL_current.2.1 7 = .ok (.aload_n 0, 1) := by decide +kernel
theorem d_PL_current_8 : decode mm_PL_current.2.1 8 = .ok (.getfield 12, 3) := by decide +kernel
theorem d_PL_current_11 : decode mm_PL_current.2.1 11 = .ok (.getfield 146, 3) := by decide +kernel
theorem d_PL_current_14 : decode mm_PL_current.2.1 14 = .ok (.iload_n 1, 1) := by decide +kernel
theorem d_PL_current_15 : decode mm_PL_current.2.1 15 = .ok (.iaload, 1) := by decide +kernel
theorem d_PL_current_16 : decode mm_PL_current.2.1 16 = .ok (.goto 4, 3) := by decide +kernel
theorem d_PL_current_19 : decode mm_PL_current.2.1 19 = .ok (.iconst (-1), 1) := by decide +kernel
theorem d_PL_current_20 : decode mm_PL_current.2.1 20 = .ok (.ireturn, 1) := by decide +kernel
def wp_PL_current  (a1 : Int32) (M : MzM) (K : Int32 → MzM → Prop) : Prop := wp_PL_isSession  a1 M (fun v4 M1 => ((v4 = 0 → K (-1 : Int32) M1) ∧ (¬ v4 = 0 → (∃ j5 : Nat, a1.toInt = (j5 : Int) ∧ j5 < 2 ∧ K (mz_i M1 (6, 0) j5) M1))))
theorem tm_PL_current {G : MzG} {B : MzB} {d : Nat} {K : Int32 → MzM → Prop} (hF : mzLive false B)   {a1 : Int32} {M : MzM} (hL : mzLnk false M) (h : wp_PL_current  a1 M K) : MzC G B (d + 1) mm_PL_current [.ref (mz_ad B (0, 0)), .int a1] M (0, 0) (mzK1 false B K) := by
  unfold wp_PL_current at h
  exact MzC.of rfl (Nat.le_of_ble_eq_true rfl) (show MzS G B (d + 1) mm_PL_current M (0, 0) (mzK1 false B K) 0 [(0, .ref (mz_ad B (0, 0))), (1, .int a1)] [] from (mz_iload_n d_PL_current_0 rfl (mz_callS (As := [.int a1]) (st := []) 0 0 d_PL_current_1 cs_PL_isSession wl_PL_41 ws_PL_isSession (Nat.le_of_ble_eq_true rfl) (Nat.zero_le _) (Nat.zero_le _) (MzC.mono (tm_PL_isSession (d := d) hF  hL h) (fun r9 B9 M1 hq3 => by obtain ⟨rfl, hL2, v4, rfl, hq3⟩ := hq3; exact ⟨_, rfl, (mz_if_eq 19 d_PL_current_4 rfl (fun hc9 => (mz_iconst (-1 : Int32) d_PL_current_19 (by decide) (mz_iret .int d_PL_current_20 rfl rfl ⟨rfl, hL2, _, rfl, (hq3.1 hc9)⟩))) (fun hc9 => (mz_aload_n d_PL_current_7 rfl (mz_getR (k := 0) (a := (1, 0)) cl_0 d_PL_current_8 (by decide) wf_PL_12 rfl (hF 0 0 rfl (by decide)) rfl (hL2 (0, 0) 0 (1, 0) rfl rfl (by decide)) (mz_getRN (k := 1) (a := (6, 0)) cl_1 d_PL_current_11 (by decide) wf_PL_146 rfl (hF 1 0 rfl (by decide)) rfl (hL2 (1, 0) 1 (6, 0) rfl rfl (by decide)) (mz_iload_n d_PL_current_14 rfl (match (hq3.2 hc9) with | ⟨j5, h6, h7, h8⟩ => mz_iald j5 d_PL_current_15 (hF 6 0 rfl (by decide)) rfl h6 h7 (mz_goto 20 d_PL_current_16 rfl (mz_iret .int d_PL_current_20 rfl rfl ⟨rfl, hL2, _, rfl, h8⟩)))))))))⟩)))))
def mm_PL_running : MzT := (⟨"ParcelLine", "running", "(I)I"⟩, prog_1_method_13_code, 2, (Option.some Jvm.ClassFile.FieldType.int))
theorem cs_PL_running {mm : MzT} : mzCall mm mm_PL_running 1 := ⟨wn_PL, wco_PL_running, by decide +kernel, by decide⟩
theorem d_PL_running_0 : decode mm_PL_running.2.1 0 = .ok (.iload_n 1, 1) := by decide +kernel
theorem d_PL_running_1 : decode mm_PL_running.2.1 1 = .ok (.invokestatic 41, 3) := by decide +kernel
theorem d_PL_running_4 : decode mm_PL_running.2.1 4 = .ok (.ifCond .eq 18, 3) := by decide +kernel
theorem d_PL_running_7 : decode mm_PL_running.2.1 7 = .ok (.aload_n 0, 1) := by decide +kernel
theorem d_PL_running_8 : decode mm_PL_running.2.1 8 = .ok (.getfield 18, 3) := by decide +kernel
theorem d_PL_running_11 : decode mm_PL_running.2.1 11 = .ok (.iload_n 1, 1) := by decide +kernel
theorem d_PL_running_12 : decode mm_PL_running.2.1 12 = .ok (.aaload, 1) := by decide +kernel
theorem d_PL_running_13 : decode mm_PL_running.2.1 13 = .ok (.getfield 56, 3) := by decide +kernel
theorem d_PL_running_16 : decode mm_PL_running.2.1 16 = .ok (.getfield 74, 3) := by decide +kernel
theorem d_PL_running_19 : decode mm_PL_running.2.1 19 = .ok (.goto 4, 3) := by decide +kernel
theorem d_PL_running_22 : decode mm_PL_running.2.1 22 = .ok (.iconst (-1), 1) := by decide +kernel
theorem d_PL_running_23 : decode mm_PL_running.2.1 23 = .ok (.ireturn, 1) := by decide +kernel
def wp_PL_running  (a1 : Int32) (M : MzM) (K : Int32 → MzM → Prop) : Prop := wp_PL_isSession  a1 M (fun v4 M1 => ((v4 = 0 → K (-1 : Int32) M1) ∧ (¬ v4 = 0 → (∃ j5 : Nat, a1.toInt = (j5 : Int) ∧ j5 < 2 ∧ K (mz_i M1 (16, j5) 1) M1))))
theorem tm_PL_running {G : MzG} {B : MzB} {d : Nat} {K : Int32 → MzM → Prop} (hF : mzLive false B)   {a1 : Int32} {M : MzM} (hL : mzLnk false M) (h : wp_PL_running  a1 M K) : MzC G B (d + 1) mm_PL_running [.ref (mz_ad B (0, 0)), .int a1] M (0, 0) (mzK1 false B K) := by
  unfold wp_PL_running at h
  exact MzC.of rfl (Nat.le_of_ble_eq_true rfl) (show MzS G B (d + 1) mm_PL_running M (0, 0) (mzK1 false B K) 0 [(0, .ref (mz_ad B (0, 0))), (1, .int a1)] [] from (mz_iload_n d_PL_running_0 rfl (mz_callS (As := [.int a1]) (st := []) 0 0 d_PL_running_1 cs_PL_isSession wl_PL_41 ws_PL_isSession (Nat.le_of_ble_eq_true rfl) (Nat.zero_le _) (Nat.zero_le _) (MzC.mono (tm_PL_isSession (d := d) hF  hL h) (fun r9 B9 M1 hq3 => by obtain ⟨rfl, hL2, v4, rfl, hq3⟩ := hq3; exact ⟨_, rfl, (mz_if_eq 22 d_PL_running_4 rfl (fun hc9 => (mz_iconst (-1 : Int32) d_PL_running_22 (by decide) (mz_iret .int d_PL_running_23 rfl rfl ⟨rfl, hL2, _, rfl, (hq3.1 hc9)⟩))) (fun hc9 => (mz_aload_n d_PL_running_7 rfl (mz_getR (k := 1) (a := (7, 0)) cl_0 d_PL_running_8 (by decide) wf_PL_18 rfl (hF 0 0 rfl (by decide)) rfl (hL2 (0, 0) 1 (7, 0) rfl rfl (by decide)) (mz_iload_n d_PL_running_11 rfl (match (hq3.2 hc9) with | ⟨j5, h6, h7, h8⟩ => mz_aald (a := (8, j5)) j5 d_PL_running_12 (hF 7 0 rfl (by decide)) rfl h6 h7 (hL2 (7, 0) j5 (8, j5) rfl (mzLk_7 h7) (by decide)) (mz_getRN (k := 5) (a := (16, j5)) cl_4 d_PL_running_13 (by decide) wf_PL_56 rfl (hF 8 j5 rfl h7) rfl (hL2 (8, j5) 5 (16, j5) rfl rfl h7) (mz_getIN (k := 1) cl_8 d_PL_running_16 (by decide) wf_PL_74 rfl (hF 16 j5 rfl h7) rfl (mz_goto 23 d_PL_running_19 rfl (mz_iret .int d_PL_running_23 rfl rfl ⟨rfl, hL2, _, rfl, h8⟩))))))))))⟩)))))
def wp_PL_isShelf  (a0 : Int32) (M : MzM) (K : Int32 → MzM → Prop) : Prop := ((a0 < 0 → K (0 : Int32) M) ∧ (¬ a0 < 0 → (((3 : Int32) ≤ a0 → K (0 : Int32) M) ∧ (¬ (3 : Int32) ≤ a0 → K (1 : Int32) M))))
theorem tm_PL_isShelf {G : MzG} {B : MzB} {d : Nat} {K : Int32 → MzM → Prop} (hF : mzLive false B)   {a0 : Int32} {M : MzM} (hL : mzLnk false M) (h : wp_PL_isShelf  a0 M K) : MzC G B d mm_PL_isShelf [.int a0] M (0, 0) (mzK1 false B K) := by
  unfold wp_PL_isShelf at h
  exact MzC.of rfl (Nat.le_of_ble_eq_true rfl) (show MzS G B d mm_PL_isShelf M (0, 0) (mzK1 false B K) 0 [(0, .int a0)] [] from (mz_iload_n d_PL_isShelf_0 rfl (mz_if_lt 13 d_PL_isShelf_1 rfl (fun hc2 => (mz_iconst (0 : Int32) d_PL_isShelf_13 (by decide) (mz_iret .boolean d_PL_isShelf_14 rfl rfl ⟨rfl, hL, _, rfl, (h.1 hc2)⟩))) (fun hc2 => (mz_iload_n d_PL_isShelf_4 rfl (mz_iconst (3 : Int32) d_PL_isShelf_5 (by decide) (mz_icmp_ge 13 d_PL_isShelf_6 rfl (fun hc1 => (mz_iconst (0 : Int32) d_PL_isShelf_13 (by decide) (mz_iret .boolean d_PL_isShelf_14 rfl rfl ⟨rfl, hL, _, rfl, ((h.2 hc2).1 hc1)⟩))) (fun hc1 => (mz_iconst (1 : Int32) d_PL_isShelf_9 (by decide) (mz_goto 14 d_PL_isShelf_10 rfl (mz_iret .boolean d_PL_isShelf_14 rfl rfl ⟨rfl, hL, _, rfl, ((h.2 hc2).2 hc1)⟩)))))))))))
def mm_PL_fill : MzT := (⟨"ParcelLine", "fill", "(IIII)Z"⟩, prog_1_method_14_code, 7, (Option.some Jvm.ClassFile.FieldType.boolean))
theorem cs_PL_fill {mm : MzT} : mzCall mm mm_PL_fill 4 := ⟨wn_PL, wco_PL_fill, by decide +kernel, by decide⟩
theorem d_PL_fill_0 : decode mm_PL_fill.2.1 0 = .ok (.iload_n 1, 1) := by decide +kernel
theorem d_PL_fill_1 : decode mm_PL_fill.2.1 1 = .ok (.invokestatic 150, 3) := by decide +kernel
theorem d_PL_fill_4 : decode mm_PL_fill.2.1 4 = .ok (.ifCond .eq 23, 3) := by decide +kernel
theorem d_PL_fill_7 : decode mm_PL_fill.2.1 7 = .ok (.iload_n 2, 1) := by decide +kernel
theorem d_PL_fill_8 : decode mm_PL_fill.2.1 8 = .ok (.ifCond .lt 19, 3) := by decide +kernel
theorem d_PL_fill_11 : decode mm_PL_fill.2.1 11 = .ok (.iload_n 2, 1) := by decide +kernel
theorem d_PL_fill_12 : decode mm_PL_fill.2.1 12 = .ok (.bipush 24, 2) := by decide +kernel
theorem d_PL_fill_14 : decode mm_PL_fill.2.1 14 = .ok (.if_icmp .gt 13, 3) := by decide +kernel
theorem d_PL_fill_17 : decode mm_PL_fill.2.1 17 = .ok (.aload_n 0, 1) := by decide +kernel
theorem d_PL_fill_18 : decode mm_PL_fill.2.1 18 = .ok (.getfield 37, 3) := by decide +kernel
theorem d_PL_fill_21 : decode mm_PL_fill.2.1 21 = .ok (.getfield 153, 3) := by decide +kernel
theorem d_PL_fill_24 : decode mm_PL_fill.2.1 24 = .ok (.ifCond .eq 5, 3) := by decide +kernel
theorem d_PL_fill_27 : decode mm_PL_fill.2.1 27 = .ok (.iconst 0, 1) := by decide +kernel
theorem d_PL_fill_28 : decode mm_PL_fill.2.1 28 = .ok (.ireturn, 1) := by decide +kernel
theorem d_PL_fill_29 : decode mm_PL_fill.2.1 29 = .ok (.aload_n 0, 1) := by decide +kernel
theorem d_PL_fill_30 : decode mm_PL_fill.2.1 30 = .ok (.getfield 27, 3) := by decide +kernel
theorem d_PL_fill_33 : decode mm_PL_fill.2.1 33 = .ok (.iload_n 1, 1) := by decide +kernel
theorem d_PL_fill_34 : decode mm_PL_fill.2.1 34 = .ok (.aaload, 1) := by decide +kernel
theorem d_PL_fill_35 : decode mm_PL_fill.2.1 35 = .ok (.astore 5, 2) := by decide +kernel
theorem d_PL_fill_37 : decode mm_PL_fill.2.1 37 = .ok (.aload 5, 2) := by decide +kernel
theorem d_PL_fill_39 : decode mm_PL_fill.2.1 39 = .ok (.iconst 0, 1) := by decide +kernel
theorem d_PL_fill_40 : decode mm_PL_fill.2.1 40 = .ok (.putfield 132, 3) := by decide +kernel
theorem d_PL_fill_43 : decode mm_PL_fill.2.1 43 = .ok (.iconst 0, 1) := by decide +kernel
theorem d_PL_fill_44 : decode mm_PL_fill.2.1 44 = .ok (.istore 6, 2) := by decide +kernel
theorem d_PL_fill_46 : decode mm_PL_fill.2.1 46 = .ok (.iload 6, 2) := by decide +kernel
theorem d_PL_fill_48 : decode mm_PL_fill.2.1 48 = .ok (.iload_n 2, 1) := by decide +kernel
theorem d_PL_fill_49 : decode mm_PL_fill.2.1 49 = .ok (.if_icmp .ge 25, 3) := by decide +kernel
theorem d_PL_fill_52 : decode mm_PL_fill.2.1 52 = .ok (.aload 5, 2) := by decide +kernel
theorem d_PL_fill_54 : decode mm_PL_fill.2.1 54 = .ok (.iload_n 3, 1) := by decide +kernel
theorem d_PL_fill_55 : decode mm_PL_fill.2.1 55 = .ok (.iload 6, 2) := by decide +kernel
theorem d_PL_fill_57 : decode mm_PL_fill.2.1 57 = .ok (.iload 4, 2) := by decide +kernel
theorem d_PL_fill_59 : decode mm_PL_fill.2.1 59 = .ok (.imul, 1) := by decide +kernel
theorem d_PL_fill_60 : decode mm_PL_fill.2.1 60 = .ok (.iadd, 1) := by decide +kernel
theorem d_PL_fill_61 : decode mm_PL_fill.2.1 61 = .ok (.sipush 255, 3) := by decide +kernel
theorem d_PL_fill_64 : decode mm_PL_fill.2.1 64 = .ok (.iand, 1) := by decide +kernel
theorem d_PL_fill_65 : decode mm_PL_fill.2.1 65 = .ok (.invokevirtual 156, 3) := by decide +kernel
theorem d_PL_fill_68 : decode mm_PL_fill.2.1 68 = .ok (.iinc 6 1, 3) := by decide +kernel
theorem d_PL_fill_71 : decode mm_PL_fill.2.1 71 = .ok (.goto (-25), 3) := by decide +kernel
theorem d_PL_fill_74 : decode mm_PL_fill.2.1 74 = .ok (.iconst 1, 1) := by decide +kernel
theorem d_PL_fill_75 : decode mm_PL_fill.2.1 75 = .ok (.ireturn, 1) := by decide +kernel
def wp_PL_fill_46   (K : Int32 → MzM → Prop) : Nat → Int32 → Int32 → Int32 → Nat → Int32 → MzM → Prop
  | 0, _, _, _, _, _, _ => False
  | r0 + 1, y2, y3, y4, q5, y6, M => (q5 < 3 ∧ ((y2 ≤ y6 → K (1 : Int32) M) ∧ (¬ y2 ≤ y6 → wp_Row_adds q5 ((y3 + (y6 * y4)) &&& (255 : Int32)) M (fun M16 => (wp_PL_fill_46   K r0) y2 y3 y4 q5 (y6 + (1 : Int32)) M16))))
def wp_PL_fill  (a1 : Int32) (a2 : Int32) (a3 : Int32) (a4 : Int32) (M : MzM) (K : Int32 → MzM → Prop) : Prop := wp_PL_isShelf  a1 M (fun v4 M1 => ((v4 = 0 → K (0 : Int32) M1) ∧ (¬ v4 = 0 → ((a2 < 0 → K (0 : Int32) M1) ∧ (¬ a2 < 0 → (((24 : Int32) < a2 → K (0 : Int32) M1) ∧ (¬ (24 : Int32) < a2 → (((mz_i M1 (22, 0) 2) = 0 → (∃ j5 : Nat, a1.toInt = (j5 : Int) ∧ j5 < 3 ∧ (∀ M9 : MzM, M9 = mz_si M1 (20, j5) 1 (0 : Int32) → (∃ r10 : Nat, wp_PL_fill_46   K r10 a2 a3 a4 j5 (0 : Int32) M9)))) ∧ (¬ (mz_i M1 (22, 0) 2) = 0 → K (0 : Int32) M1)))))))))
theorem tm_PL_fill_46 {G : MzG} {B : MzB} {d : Nat} {K : Int32 → MzM → Prop} (hF : mzLive false B)     : ∀ (r0 : Nat) (y2 : Int32) (y3 : Int32) (y4 : Int32) (q5 : Nat) (y6 : Int32) (M : MzM), mzLnk false M → wp_PL_fill_46   K r0 y2 y3 y4 q5 y6 M → MzS G B (d + 1) mm_PL_fill M (0, 0) (mzK1 false B K) 46 [(2, .int y2), (3, .int y3), (4, .int y4), (5, .ref (mz_ad B (20, q5))), (6, .int y6)] [] := by
  intro r0
  induction r0 with
  | zero => intro y2 y3 y4 q5 y6 M hL h; exact False.elim h
  | succ r0 hH46 =>
    intro y2 y3 y4 q5 y6 M hL h
    unfold wp_PL_fill_46 at h
    exact (mz_iload d_PL_fill_46 rfl (mz_iload_n d_PL_fill_48 rfl (mz_icmp_ge 74 d_PL_fill_49 rfl (fun hc19 => (mz_iconst (1 : Int32) d_PL_fill_74 (by decide) (mz_iret .boolean d_PL_fill_75 rfl rfl ⟨rfl, hL, _, rfl, (h.2.1 hc19)⟩))) (fun hc19 => (mz_aload d_PL_fill_52 rfl (mz_iload_n d_PL_fill_54 rfl (mz_iload d_PL_fill_55 rfl (mz_iload d_PL_fill_57 rfl (mz_imul d_PL_fill_59 (mz_iadd d_PL_fill_60 (mz_sipush (255 : Int32) d_PL_fill_61 (by decide) (mz_iand d_PL_fill_64 (mz_callV (As := [.int ((y3 + (y6 * y4)) &&& (255 : Int32))]) (st := []) (hF 20 q5 rfl (h.1)) rfl (mzClOf cl_3) 0 0 d_PL_fill_65 cs_Row_add wl_PL_156 wi_Row_add wse_Row_add (Nat.le_of_ble_eq_true rfl) (Nat.zero_le _) (Nat.zero_le _) (MzC.mono (tm_Row_adds (d := d) hF (h.1) hL (h.2.2 hc19)) (fun r9 B9 M16 hq18 => by obtain ⟨rfl, hL17, rfl, hq18⟩ := hq18; exact ⟨none, rfl, (mz_iinc (y6 + (1 : Int32)) d_PL_fill_68 rfl (by decide) rfl (mz_goto 46 d_PL_fill_71 rfl (MzS.loc [(2, .int y2), (3, .int y3), (4, .int y4), (5, .ref (mz_ad B (20, q5))), (6, .int (y6 + (1 : Int32)))] ⟨rfl, rfl, rfl, rfl, rfl, trivial⟩ (hH46 y2 y3 y4 q5 (y6 + (1 : Int32)) M16 hL17 hq18))))⟩)))))))))))))))
theorem tm_PL_fill {G : MzG} {B : MzB} {d : Nat} {K : Int32 → MzM → Prop} (hF : mzLive false B)   {a1 : Int32} {a2 : Int32} {a3 : Int32} {a4 : Int32} {M : MzM} (hL : mzLnk false M) (h : wp_PL_fill  a1 a2 a3 a4 M K) : MzC G B (d + 1) mm_PL_fill [.ref (mz_ad B (0, 0)), .int a1, .int a2, .int a3, .int a4] M (0, 0) (mzK1 false B K) := by
  unfold wp_PL_fill at h
  exact MzC.of rfl (Nat.le_of_ble_eq_true rfl) (show MzS G B (d + 1) mm_PL_fill M (0, 0) (mzK1 false B K) 0 [(0, .ref (mz_ad B (0, 0))), (1, .int a1), (2, .int a2), (3, .int a3), (4, .int a4)] [] from (mz_iload_n d_PL_fill_0 rfl (mz_callS (As := [.int a1]) (st := []) 0 0 d_PL_fill_1 cs_PL_isShelf wl_PL_150 ws_PL_isShelf (Nat.le_of_ble_eq_true rfl) (Nat.zero_le _) (Nat.zero_le _) (MzC.mono (tm_PL_isShelf (d := d) hF  hL h) (fun r9 B9 M1 hq3 => by obtain ⟨rfl, hL2, v4, rfl, hq3⟩ := hq3; exact ⟨_, rfl, (mz_if_eq 27 d_PL_fill_4 rfl (fun hc15 => (mz_iconst (0 : Int32) d_PL_fill_27 (by decide) (mz_iret .boolean d_PL_fill_28 rfl rfl ⟨rfl, hL2, _, rfl, (hq3.1 hc15)⟩))) (fun hc15 => (mz_iload_n d_PL_fill_7 rfl (mz_if_lt 27 d_PL_fill_8 rfl (fun hc14 => (mz_iconst (0 : Int32) d_PL_fill_27 (by decide) (mz_iret .boolean d_PL_fill_28 rfl rfl ⟨rfl, hL2, _, rfl, ((hq3.2 hc15).1 hc14)⟩))) (fun hc14 => (mz_iload_n d_PL_fill_11 rfl (mz_bipush (24 : Int32) d_PL_fill_12 (by decide) (mz_icmp_gt 27 d_PL_fill_14 rfl (fun hc13 => (mz_iconst (0 : Int32) d_PL_fill_27 (by decide) (mz_iret .boolean d_PL_fill_28 rfl rfl ⟨rfl, hL2, _, rfl, (((hq3.2 hc15).2 hc14).1 hc13)⟩))) (fun hc13 => (mz_aload_n d_PL_fill_17 rfl (mz_getR (k := 3) (a := (22, 0)) cl_0 d_PL_fill_18 (by decide) wf_PL_37 rfl (hF 0 0 rfl (by decide)) rfl (hL2 (0, 0) 3 (22, 0) rfl rfl (by decide)) (mz_getIN (k := 2) cl_9 d_PL_fill_21 (by decide) wf_PL_153 rfl (hF 22 0 rfl (by decide)) rfl (mz_if_eq 29 d_PL_fill_24 rfl (fun hc12 => (mz_aload_n d_PL_fill_29 rfl (mz_getR (k := 2) (a := (19, 0)) cl_0 d_PL_fill_30 (by decide) wf_PL_27 rfl (hF 0 0 rfl (by decide)) rfl (hL2 (0, 0) 2 (19, 0) rfl rfl (by decide)) (mz_iload_n d_PL_fill_33 rfl (match ((((hq3.2 hc15).2 hc14).2 hc13).1 hc12) with | ⟨j5, h6, h7, h8⟩ => mz_aald (a := (20, j5)) j5 d_PL_fill_34 (hF 19 0 rfl (by decide)) rfl h6 h7 (hL2 (19, 0) j5 (20, j5) rfl (mzLk_19 h7) (by decide)) (mz_astore d_PL_fill_35 (by decide) (mz_aload d_PL_fill_37 rfl (mz_iconst (0 : Int32) d_PL_fill_39 (by decide) (mz_putIN (k := 1) cl_3 d_PL_fill_40 (by decide) wf_PL_132 rfl rfl rfl rfl (hF 20 j5 rfl h7) rfl (let M9 : MzM := mz_si M1 (20, j5) 1 (0 : Int32); (mz_iconst (0 : Int32) d_PL_fill_43 (by decide) (mz_istore d_PL_fill_44 (by decide) (MzS.loc [(2, .int a2), (3, .int a3), (4, .int a4), (5, .ref (mz_ad B (20, j5))), (6, .int (0 : Int32))] ⟨rfl, rfl, rfl, rfl, rfl, trivial⟩ (match (h8 M9 rfl) with | ⟨r10, h11⟩ => tm_PL_fill_46 hF   r10 a2 a3 a4 j5 (0 : Int32) M9 hL2 h11)))))))))))))) (fun hc12 => (mz_iconst (0 : Int32) d_PL_fill_27 (by decide) (mz_iret .boolean d_PL_fill_28 rfl rfl ⟨rfl, hL2, _, rfl, ((((hq3.2 hc15).2 hc14).2 hc13).2 hc12)⟩))))))))))))))))⟩)))))
def mm_PL_shelf : MzT := (⟨"ParcelLine", "shelf", "(II)I"⟩, prog_1_method_15_code, 3, (Option.some Jvm.ClassFile.FieldType.int))
theorem cs_PL_shelf {mm : MzT} : mzCall mm mm_PL_shelf 2 := ⟨wn_PL, wco_PL_shelf, by decide +kernel, by decide⟩
theorem d_PL_shelf_0 : decode mm_PL_shelf.2.1 0 = .ok (.iload_n 1, 1) := by decide +kernel
theorem d_PL_shelf_1 : decode mm_PL_shelf.2.1 1 = .ok (.invokestatic 150, 3) := by decide +kernel
theorem d_PL_shelf_4 : decode mm_PL_shelf.2.1 4 = .ok (.ifCond .ne 5, 3) := by decide +kernel
theorem d_PL_shelf_7 : decode mm_PL_shelf.2.1 7 = .ok (.iconst (-1), 1) := by decide +kernel
theorem d_PL_shelf_8 : decode mm_PL_shelf.2.1 8 = .ok (.ireturn, 1) := by decide +kernel
theorem d_PL_shelf_9 : decode mm_PL_shelf.2.1 9 = .ok (.iload_n 2, 1) := by decide +kernel
theorem d_PL_shelf_10 : decode mm_PL_shelf.2.1 10 = .ok (.iconst (-1), 1) := by decide +kernel
theorem d_PL_shelf_11 : decode mm_PL_shelf.2.1 11 = .ok (.if_icmp .ne 15, 3) := by decide +kernel
theorem d_PL_shelf_14 : decode mm_PL_shelf.2.1 14 = .ok (.aload_n 0, 1) := by decide +kernel
theorem d_PL_shelf_15 : decode mm_PL_shelf.2.1 15 = .ok (.getfield 27, 3) := by decide +kernel
theorem d_PL_shelf_18 : decode mm_PL_shelf.2.1 18 = .ok (.iload_n 1, 1) := by decide +kernel
theorem d_PL_shelf_19 : decode mm_PL_shelf.2.1 19 = .ok (.aaload, 1) := by decide +kernel
theorem d_PL_shelf_20 : decode mm_PL_shelf.2.1 20 = .ok (.getfield 132, 3) := by decide +kernel
theorem d_PL_shelf_23 : decode mm_PL_shelf.2.1 23 = .ok (.goto 13, 3) := by decide +kernel
theorem d_PL_shelf_26 : decode mm_PL_shelf.2.1 26 = .ok (.aload_n 0, 1) := by decide +kernel
theorem d_PL_shelf_27 : decode mm_PL_shelf.2.1 27 = .ok (.getfield 27, 3) := by decide +kernel
theorem d_PL_shelf_30 : decode mm_PL_shelf.2.1 30 = .ok (.iload_n 1, 1) := by decide +kernel
theorem d_PL_shelf_31 : decode mm_PL_shelf.2.1 31 = .ok (.aaload, 1) := by decide +kernel
theorem d_PL_shelf_32 : decode mm_PL_shelf.2.1 32 = .ok (.iload_n 2, 1) := by decide +kernel
theorem d_PL_shelf_33 : decode mm_PL_shelf.2.1 33 = .ok (.invokevirtual 143, 3) := by decide +kernel
theorem d_PL_shelf_36 : decode mm_PL_shelf.2.1 36 = .ok (.ireturn, 1) := by decide +kernel
def wp_PL_shelf  (a1 : Int32) (a2 : Int32) (M : MzM) (K : Int32 → MzM → Prop) : Prop := wp_PL_isShelf  a1 M (fun v4 M1 => ((¬ v4 = 0 → ((¬ a2 = (-1 : Int32) → (∃ j5 : Nat, a1.toInt = (j5 : Int) ∧ j5 < 3 ∧ wp_Row_ats j5 a2 M1 (fun v12 M9 => K v12 M9))) ∧ (a2 = (-1 : Int32) → (∃ j13 : Nat, a1.toInt = (j13 : Int) ∧ j13 < 3 ∧ K (mz_i M1 (20, j13) 1) M1)))) ∧ (v4 = 0 → K (-1 : Int32) M1)))
theorem tm_PL_shelf {G : MzG} {B : MzB} {d : Nat} {K : Int32 → MzM → Prop} (hF : mzLive false B)   {a1 : Int32} {a2 : Int32} {M : MzM} (hL : mzLnk false M) (h : wp_PL_shelf  a1 a2 M K) : MzC G B (d + 1) mm_PL_shelf [.ref (mz_ad B (0, 0)), .int a1, .int a2] M (0, 0) (mzK1 false B K) := by
  unfold wp_PL_shelf at h
  exact MzC.of rfl (Nat.le_of_ble_eq_true rfl) (show MzS G B (d + 1) mm_PL_shelf M (0, 0) (mzK1 false B K) 0 [(0, .ref (mz_ad B (0, 0))), (1, .int a1), (2, .int a2)] [] from (mz_iload_n d_PL_shelf_0 rfl (mz_callS (As := [.int a1]) (st := []) 0 0 d_PL_shelf_1 cs_PL_isShelf wl_PL_150 ws_PL_isShelf (Nat.le_of_ble_eq_true rfl) (Nat.zero_le _) (Nat.zero_le _) (MzC.mono (tm_PL_isShelf (d := d) hF  hL h) (fun r9 B9 M1 hq3 => by obtain ⟨rfl, hL2, v4, rfl, hq3⟩ := hq3; exact ⟨_, rfl, (mz_if_ne 9 d_PL_shelf_4 rfl (fun hc18 => (mz_iload_n d_PL_shelf_9 rfl (mz_iconst (-1 : Int32) d_PL_shelf_10 (by decide) (mz_icmp_ne 26 d_PL_shelf_11 rfl (fun hc17 => (mz_aload_n d_PL_shelf_26 rfl (mz_getR (k := 2) (a := (19, 0)) cl_0 d_PL_shelf_27 (by decide) wf_PL_27 rfl (hF 0 0 rfl (by decide)) rfl (hL2 (0, 0) 2 (19, 0) rfl rfl (by decide)) (mz_iload_n d_PL_shelf_30 rfl (match ((hq3.1 hc18).1 hc17) with | ⟨j5, h6, h7, h8⟩ => mz_aald (a := (20, j5)) j5 d_PL_shelf_31 (hF 19 0 rfl (by decide)) rfl h6 h7 (hL2 (19, 0) j5 (20, j5) rfl (mzLk_19 h7) (by decide)) (mz_iload_n d_PL_shelf_32 rfl (mz_callV (As := [.int a2]) (st := []) (hF 20 j5 rfl h7) rfl (mzClOf cl_3) 0 0 d_PL_shelf_33 cs_Row_at wl_PL_143 wi_Row_at wse_Row_at (Nat.le_of_ble_eq_true rfl) (Nat.zero_le _) (Nat.zero_le _) (MzC.mono (tm_Row_ats (d := d) hF h7 hL2 h8) (fun r9 B9 M9 hq11 => by obtain ⟨rfl, hL10, v12, rfl, hq11⟩ := hq11; exact ⟨_, rfl, (mz_iret .int d_PL_shelf_36 rfl rfl ⟨rfl, hL10, _, rfl, hq11⟩)⟩))))))))) (fun hc17 => (mz_aload_n d_PL_shelf_14 rfl (mz_getR (k := 2) (a := (19, 0)) cl_0 d_PL_shelf_15 (by decide) wf_PL_27 rfl (hF 0 0 rfl (by decide)) rfl (hL2 (0, 0) 2 (19, 0) rfl rfl (by decide)) (mz_iload_n d_PL_shelf_18 rfl (match ((hq3.1 hc18).2 hc17) with | ⟨j13, h14, h15, h16⟩ => mz_aald (a := (20, j13)) j13 d_PL_shelf_19 (hF 19 0 rfl (by decide)) rfl h14 h15 (hL2 (19, 0) j13 (20, j13) rfl (mzLk_19 h15) (by decide)) (mz_getIN (k := 1) cl_3 d_PL_shelf_20 (by decide) wf_PL_132 rfl (hF 20 j13 rfl h15) rfl (mz_goto 36 d_PL_shelf_23 rfl (mz_iret .int d_PL_shelf_36 rfl rfl ⟨rfl, hL2, _, rfl, h16⟩)))))))))))) (fun hc18 => (mz_iconst (-1 : Int32) d_PL_shelf_7 (by decide) (mz_iret .int d_PL_shelf_8 rfl rfl ⟨rfl, hL2, _, rfl, (hq3.2 hc18)⟩))))⟩)))))
def wp_PL_isName_4   (K : Int32 → MzM → Prop) : Nat → Int32 → Int32 → Int32 → MzM → Prop
  | 0, _, _, _, _ => False
  | r0 + 1, y0, y1, y2, M => (((3 : Int32) ≤ y2 → ((y0 ≤ 0 → K (0 : Int32) M) ∧ (¬ y0 ≤ 0 → ((¬ y1 = 0 → K (0 : Int32) M) ∧ (y1 = 0 → K (1 : Int32) M))))) ∧ (¬ (3 : Int32) ≤ y2 → ((y1 ≤ 0 → ((y0 ≤ 0 → K (0 : Int32) M) ∧ (¬ y0 ≤ 0 → ((¬ y1 = 0 → K (0 : Int32) M) ∧ (y1 = 0 → K (1 : Int32) M))))) ∧ (¬ y1 ≤ 0 → wp_PL_isNameByte  (y1 - y1 / (128 : Int32) * (128 : Int32)) M (fun v10 M7 => ((¬ v10 = 0 → (wp_PL_isName_4   K r0) y0 (y1 / (128 : Int32)) (y2 + (1 : Int32)) M7) ∧ (v10 = 0 → K (0 : Int32) M7)))))))
def wp_PL_isName  (a0 : Int32) (M : MzM) (K : Int32 → MzM → Prop) : Prop := (∃ r1 : Nat, wp_PL_isName_4   K r1 a0 a0 (0 : Int32) M)
theorem tm_PL_isName_4 {G : MzG} {B : MzB} {d : Nat} {K : Int32 → MzM → Prop} (hF : mzLive false B)     : ∀ (r0 : Nat) (y0 : Int32) (y1 : Int32) (y2 : Int32) (M : MzM), mzLnk false M → wp_PL_isName_4   K r0 y0 y1 y2 M → MzS G B (d + 1) mm_PL_isName M (0, 0) (mzK1 false B K) 4 [(0, .int y0), (1, .int y1), (2, .int y2)] [] := by
  intro r0
  induction r0 with
  | zero => intro y0 y1 y2 M hL h; exact False.elim h
  | succ r0 hH4 =>
    intro y0 y1 y2 M hL h
    unfold wp_PL_isName_4 at h
    exact (mz_iload_n d_PL_isName_4 rfl (mz_iconst (3 : Int32) d_PL_isName_5 (by decide) (mz_icmp_ge 38 d_PL_isName_6 rfl (fun hc13 => (mz_iload_n d_PL_isName_38 rfl (mz_if_le 50 d_PL_isName_39 rfl (fun hc4 => (mz_iconst (0 : Int32) d_PL_isName_50 (by decide) (mz_iret .boolean d_PL_isName_51 rfl rfl ⟨rfl, hL, _, rfl, ((h.1 hc13).1 hc4)⟩))) (fun hc4 => (mz_iload_n d_PL_isName_42 rfl (mz_if_ne 50 d_PL_isName_43 rfl (fun hc3 => (mz_iconst (0 : Int32) d_PL_isName_50 (by decide) (mz_iret .boolean d_PL_isName_51 rfl rfl ⟨rfl, hL, _, rfl, (((h.1 hc13).2 hc4).1 hc3)⟩))) (fun hc3 => (mz_iconst (1 : Int32) d_PL_isName_46 (by decide) (mz_goto 51 d_PL_isName_47 rfl (mz_iret .boolean d_PL_isName_51 rfl rfl ⟨rfl, hL, _, rfl, (((h.1 hc13).2 hc4).2 hc3)⟩)))))))))) (fun hc13 => (mz_iload_n d_PL_isName_9 rfl (mz_if_le 38 d_PL_isName_10 rfl (fun hc12 => (mz_iload_n d_PL_isName_38 rfl (mz_if_le 50 d_PL_isName_39 rfl (fun hc6 => (mz_iconst (0 : Int32) d_PL_isName_50 (by decide) (mz_iret .boolean d_PL_isName_51 rfl rfl ⟨rfl, hL, _, rfl, (((h.2 hc13).1 hc12).1 hc6)⟩))) (fun hc6 => (mz_iload_n d_PL_isName_42 rfl (mz_if_ne 50 d_PL_isName_43 rfl (fun hc5 => (mz_iconst (0 : Int32) d_PL_isName_50 (by decide) (mz_iret .boolean d_PL_isName_51 rfl rfl ⟨rfl, hL, _, rfl, ((((h.2 hc13).1 hc12).2 hc6).1 hc5)⟩))) (fun hc5 => (mz_iconst (1 : Int32) d_PL_isName_46 (by decide) (mz_goto 51 d_PL_isName_47 rfl (mz_iret .boolean d_PL_isName_51 rfl rfl ⟨rfl, hL, _, rfl, ((((h.2 hc13).1 hc12).2 hc6).2 hc5)⟩)))))))))) (fun hc12 => (mz_iload_n d_PL_isName_13 rfl (mz_sipush (128 : Int32) d_PL_isName_14 (by decide) (mz_irem d_PL_isName_17 (by decide) (mz_callS (As := [.int (y1 - y1 / (128 : Int32) * (128 : Int32))]) (st := []) 0 0 d_PL_isName_18 cs_PL_isNameByte wl_PL_206 ws_PL_isNameByte (Nat.le_of_ble_eq_true rfl) (Nat.zero_le _) (Nat.zero_le _) (MzC.mono (tm_PL_isNameByte (d := d) hF  hL ((h.2 hc13).2 hc12)) (fun r9 B9 M7 hq9 => by obtain ⟨rfl, hL8, v10, rfl, hq9⟩ := hq9; exact ⟨_, rfl, (mz_if_ne 26 d_PL_isName_21 rfl (fun hc11 => (mz_iload_n d_PL_isName_26 rfl (mz_sipush (128 : Int32) d_PL_isName_27 (by decide) (mz_idiv d_PL_isName_30 (by decide) (mz_istore_n d_PL_isName_31 (by decide) (mz_iinc (y2 + (1 : Int32)) d_PL_isName_32 rfl (by decide) rfl (mz_goto 4 d_PL_isName_35 rfl (MzS.loc [(0, .int y0), (1, .int (y1 / (128 : Int32))), (2, .int (y2 + (1 : Int32)))] ⟨rfl, rfl, rfl, trivial⟩ (hH4 y0 (y1 / (128 : Int32)) (y2 + (1 : Int32)) M7 hL8 (hq9.1 hc11)))))))))) (fun hc11 => (mz_iconst (0 : Int32) d_PL_isName_24 (by decide) (mz_iret .boolean d_PL_isName_25 rfl rfl ⟨rfl, hL8, _, rfl, (hq9.2 hc11)⟩))))⟩)))))))))))))
theorem tm_PL_isName {G : MzG} {B : MzB} {d : Nat} {K : Int32 → MzM → Prop} (hF : mzLive false B)   {a0 : Int32} {M : MzM} (hL : mzLnk false M) (h : wp_PL_isName  a0 M K) : MzC G B (d + 1) mm_PL_isName [.int a0] M (0, 0) (mzK1 false B K) := by
  unfold wp_PL_isName at h
  exact MzC.of rfl (Nat.le_of_ble_eq_true rfl) (show MzS G B (d + 1) mm_PL_isName M (0, 0) (mzK1 false B K) 0 [(0, .int a0)] [] from (mz_iload_n d_PL_isName_0 rfl (mz_istore_n d_PL_isName_1 (by decide) (mz_iconst (0 : Int32) d_PL_isName_2 (by decide) (mz_istore_n d_PL_isName_3 (by decide) (MzS.loc [(0, .int a0), (1, .int a0), (2, .int (0 : Int32))] ⟨rfl, rfl, rfl, trivial⟩ (match h with | ⟨r1, h2⟩ => tm_PL_isName_4 hF   r1 a0 a0 (0 : Int32) M hL h2)))))))
def mm_Cop_start : MzT := (⟨"ParcelLine$Copier", "start", "(ZLParcelLine$ByteRow;II)V"⟩, prog_5_method_2_code, 5, (Option.none : Option Jvm.ClassFile.FieldType))
theorem cs_Cop_start {mm : MzT} : mzCall mm mm_Cop_start 4 := ⟨wn_Cop, wco_Cop_start, by decide +kernel, by decide⟩
theorem d_Cop_start_0 : decode mm_Cop_start.2.1 0 = .ok (.aload_n 0, 1) := by decide +kernel
theorem d_Cop_start_1 : decode mm_Cop_start.2.1 1 = .ok (.iconst 1, 1) := by decide +kernel
theorem d_Cop_start_2 : decode mm_Cop_start.2.1 2 = .ok (.putfield 19, 3) := by decide +kernel
theorem d_Cop_start_5 : decode mm_Cop_start.2.1 5 = .ok (.aload_n 0, 1) := by decide +kernel
theorem d_Cop_start_6 : decode mm_Cop_start.2.1 6 = .ok (.iload_n 1, 1) := by decide +kernel
theorem d_Cop_start_7 : decode mm_Cop_start.2.1 7 = .ok (.putfield 23, 3) := by decide +kernel
theorem d_Cop_start_10 : decode mm_Cop_start.2.1 10 = .ok (.aload_n 0, 1) := by decide +kernel
theorem d_Cop_start_11 : decode mm_Cop_start.2.1 11 = .ok (.aload_n 2, 1) := by decide +kernel
theorem d_Cop_start_12 : decode mm_Cop_start.2.1 12 = .ok (.putfield 15, 3) := by decide +kernel
theorem d_Cop_start_15 : decode mm_Cop_start.2.1 15 = .ok (.aload_n 0, 1) := by decide +kernel
theorem d_Cop_start_16 : decode mm_Cop_start.2.1 16 = .ok (.iload_n 3, 1) := by decide +kernel
theorem d_Cop_start_17 : decode mm_Cop_start.2.1 17 = .ok (.putfield 26, 3) := by decide +kernel
theorem d_Cop_start_20 : decode mm_Cop_start.2.1 20 = .ok (.aload_n 0, 1) := by decide +kernel
theorem d_Cop_start_21 : decode mm_Cop_start.2.1 21 = .ok (.iload 4, 2) := by decide +kernel
theorem d_Cop_start_23 : decode mm_Cop_start.2.1 23 = .ok (.putfield 30, 3) := by decide +kernel
theorem d_Cop_start_26 : decode mm_Cop_start.2.1 26 = .ok (.aload_n 0, 1) := by decide +kernel
theorem d_Cop_start_27 : decode mm_Cop_start.2.1 27 = .ok (.iconst 0, 1) := by decide +kernel
theorem d_Cop_start_28 : decode mm_Cop_start.2.1 28 = .ok (.putfield 33, 3) := by decide +kernel
theorem d_Cop_start_31 : decode mm_Cop_start.2.1 31 = .ok (.aload_n 0, 1) := by decide +kernel
theorem d_Cop_start_32 : decode mm_Cop_start.2.1 32 = .ok (.iconst 0, 1) := by decide +kernel
theorem d_Cop_start_33 : decode mm_Cop_start.2.1 33 = .ok (.putfield 36, 3) := by decide +kernel
theorem d_Cop_start_36 : decode mm_Cop_start.2.1 36 = .ok (.aload_n 0, 1) := by decide +kernel
theorem d_Cop_start_37 : decode mm_Cop_start.2.1 37 = .ok (.iconst 0, 1) := by decide +kernel
theorem d_Cop_start_38 : decode mm_Cop_start.2.1 38 = .ok (.putfield 39, 3) := by decide +kernel
theorem d_Cop_start_41 : decode mm_Cop_start.2.1 41 = .ok (.return_, 1) := by decide +kernel
def wp_Cop_start (p2 : Nat) (a1 : Int32) (a3 : Int32) (a4 : Int32) (M : MzM) (K : MzM → Prop) : Prop := (∀ M1 : MzM, M1 = mz_si M (22, 0) 2 (1 : Int32) → ((a1 = 0 ∨ a1 = 1) ∧ ∀ M2 : MzM, M2 = mz_si M1 (22, 0) 3 a1 → (∀ M3 : MzM, M3 = mz_sr M2 (22, 0) 1 (some (20, p2)) → (∀ M5 : MzM, M5 = mz_si M3 (22, 0) 4 a3 → (∀ M6 : MzM, M6 = mz_si M5 (22, 0) 5 a4 → (∀ M7 : MzM, M7 = mz_si M6 (22, 0) 6 (0 : Int32) → (∀ M8 : MzM, M8 = mz_si M7 (22, 0) 7 (0 : Int32) → (∀ M9 : MzM, M9 = mz_si M8 (22, 0) 8 (0 : Int32) → K M9))))))))
theorem tm_Cop_start {G : MzG} {B : MzB} {d : Nat} {K : MzM → Prop} (hF : mzLive false B) {p2 : Nat} (hp2 : p2 < 3) {a1 : Int32} {a3 : Int32} {a4 : Int32} {M : MzM} (hL : mzLnk false M) (h : wp_Cop_start p2 a1 a3 a4 M K) : MzC G B d mm_Cop_start [.ref (mz_ad B (22, 0)), .int a1, .ref (mz_ad B (20, p2)), .int a3, .int a4] M (0, 0) (mzK0 false B K) := by
  unfold wp_Cop_start at h
  exact MzC.of rfl (Nat.le_of_ble_eq_true rfl) (show MzS G B d mm_Cop_start M (0, 0) (mzK0 false B K) 0 [(0, .ref (mz_ad B (22, 0))), (1, .int a1), (2, .ref (mz_ad B (20, p2))), (3, .int a3), (4, .int a4)] [] from (mz_aload_n d_Cop_start_0 rfl (mz_iconst (1 : Int32) d_Cop_start_1 (by decide) (mz_putI (k := 2) cl_9 d_Cop_start_2 (by decide) wf_Cop_19 rfl rfl rfl rfl (hF 22 0 rfl (by decide)) rfl (let M1 : MzM := mz_si M (22, 0) 2 (1 : Int32); (mz_aload_n d_Cop_start_5 rfl (mz_iload_n d_Cop_start_6 rfl (mz_putI (k := 3) cl_9 d_Cop_start_7 (by decide) wf_Cop_23 rfl rfl (mz_bo (h M1 rfl).1).1 (mz_bo (h M1 rfl).1).2 (hF 22 0 rfl (by decide)) rfl (let M2 : MzM := mz_si M1 (22, 0) 3 a1; (mz_aload_n d_Cop_start_10 rfl (mz_aload_n d_Cop_start_11 rfl (mz_putR (k := 1) (x := (some (20, p2))) cl_9 d_Cop_start_12 (by decide) wf_Cop_15 rfl rfl rfl rfl (hF 22 0 rfl (by decide)) rfl (have hL4 := mzLnk.sr (k := 1) (x := (some (20, p2))) (i := (22, 0)) hL rfl; let M3 : MzM := mz_sr M2 (22, 0) 1 (some (20, p2)); (mz_aload_n d_Cop_start_15 rfl (mz_iload_n d_Cop_start_16 rfl (mz_putI (k := 4) cl_9 d_Cop_start_17 (by decide) wf_Cop_26 rfl rfl rfl rfl (hF 22 0 rfl (by decide)) rfl (let M5 : MzM := mz_si M3 (22, 0) 4 a3; (mz_aload_n d_Cop_start_20 rfl (mz_iload d_Cop_start_21 rfl (mz_putI (k := 5) cl_9 d_Cop_start_23 (by decide) wf_Cop_30 rfl rfl rfl rfl (hF 22 0 rfl (by decide)) rfl (let M6 : MzM := mz_si M5 (22, 0) 5 a4; (mz_aload_n d_Cop_start_26 rfl (mz_iconst (0 : Int32) d_Cop_start_27 (by decide) (mz_putI (k := 6) cl_9 d_Cop_start_28 (by decide) wf_Cop_33 rfl rfl rfl rfl (hF 22 0 rfl (by decide)) rfl (let M7 : MzM := mz_si M6 (22, 0) 6 (0 : Int32); (mz_aload_n d_Cop_start_31 rfl (mz_iconst (0 : Int32) d_Cop_start_32 (by decide) (mz_putI (k := 7) cl_9 d_Cop_start_33 (by decide) wf_Cop_36 rfl rfl rfl rfl (hF 22 0 rfl (by decide)) rfl (let M8 : MzM := mz_si M7 (22, 0) 7 (0 : Int32); (mz_aload_n d_Cop_start_36 rfl (mz_iconst (0 : Int32) d_Cop_start_37 (by decide) (mz_putI (k := 8) cl_9 d_Cop_start_38 (by decide) wf_Cop_39 rfl rfl rfl rfl (hF 22 0 rfl (by decide)) rfl (let M9 : MzM := mz_si M8 (22, 0) 8 (0 : Int32); (mz_vret d_Cop_start_41 rfl ⟨rfl, hL4, rfl, ((((((((h M1 rfl).2 M2 rfl) M3 rfl) M5 rfl) M6 rfl) M7 rfl) M8 rfl) M9 rfl)⟩))))))))))))))))))))))))))))))))))
def mm_Cop_finish : MzT := (⟨"ParcelLine$Copier", "finish", "(I)I"⟩, prog_5_method_4_code, 2, (Option.some Jvm.ClassFile.FieldType.int))
theorem cs_Cop_finish {mm : MzT} : mzCall mm mm_Cop_finish 1 := ⟨wn_Cop, wco_Cop_finish, by decide +kernel, by decide⟩
theorem d_Cop_finish_0 : decode mm_Cop_finish.2.1 0 = .ok (.aload_n 0, 1) := by decide +kernel
theorem d_Cop_finish_1 : decode mm_Cop_finish.2.1 1 = .ok (.iconst 0, 1) := by decide +kernel
theorem d_Cop_finish_2 : decode mm_Cop_finish.2.1 2 = .ok (.putfield 19, 3) := by decide +kernel
theorem d_Cop_finish_5 : decode mm_Cop_finish.2.1 5 = .ok (.iload_n 1, 1) := by decide +kernel
theorem d_Cop_finish_6 : decode mm_Cop_finish.2.1 6 = .ok (.ireturn, 1) := by decide +kernel
def wp_Cop_finish  (a1 : Int32) (M : MzM) (K : Int32 → MzM → Prop) : Prop := (∀ M1 : MzM, M1 = mz_si M (22, 0) 2 (0 : Int32) → K a1 M1)
theorem tm_Cop_finish {G : MzG} {B : MzB} {d : Nat} {K : Int32 → MzM → Prop} (hF : mzLive false B)   {a1 : Int32} {M : MzM} (hL : mzLnk false M) (h : wp_Cop_finish  a1 M K) : MzC G B d mm_Cop_finish [.ref (mz_ad B (22, 0)), .int a1] M (0, 0) (mzK1 false B K) := by
  unfold wp_Cop_finish at h
  exact MzC.of rfl (Nat.le_of_ble_eq_true rfl) (show MzS G B d mm_Cop_finish M (0, 0) (mzK1 false B K) 0 [(0, .ref (mz_ad B (22, 0))), (1, .int a1)] [] from (mz_aload_n d_Cop_finish_0 rfl (mz_iconst (0 : Int32) d_Cop_finish_1 (by decide) (mz_putI (k := 2) cl_9 d_Cop_finish_2 (by decide) wf_Cop_19 rfl rfl rfl rfl (hF 22 0 rfl (by decide)) rfl (let M1 : MzM := mz_si M (22, 0) 2 (0 : Int32); (mz_iload_n d_Cop_finish_5 rfl (mz_iret .int d_Cop_finish_6 rfl rfl ⟨rfl, hL, _, rfl, (h M1 rfl)⟩)))))))
def mm_Cop_say : MzT := (⟨"ParcelLine$Copier", "say", "(Ljava/lang/String;I)V"⟩, prog_5_method_6_code, 5, (Option.none : Option Jvm.ClassFile.FieldType))
theorem cs_Cop_say {mm : MzT} : mzCall mm mm_Cop_say 2 := ⟨wn_Cop, wco_Cop_say, by decide +kernel, by decide⟩
theorem d_Cop_say_0 : decode mm_Cop_say.2.1 0 = .ok (.iconst 0, 1) := by decide +kernel
theorem d_Cop_say_1 : decode mm_Cop_say.2.1 1 = .ok (.istore_n 3, 1) := by decide +kernel
theorem d_Cop_say_2 : decode mm_Cop_say.2.1 2 = .ok (.iload_n 3, 1) := by decide +kernel
theorem d_Cop_say_3 : decode mm_Cop_say.2.1 3 = .ok (.aload_n 1, 1) := by decide +kernel
theorem d_Cop_say_4 : decode mm_Cop_say.2.1 4 = .ok (.invokevirtual 42, 3) := by decide +kernel
theorem d_Cop_say_7 : decode mm_Cop_say.2.1 7 = .ok (.if_icmp .ge 21, 3) := by decide +kernel
theorem d_Cop_say_10 : decode mm_Cop_say.2.1 10 = .ok (.aload_n 0, 1) := by decide +kernel
theorem d_Cop_say_11 : decode mm_Cop_say.2.1 11 = .ok (.getfield 9, 3) := by decide +kernel
theorem d_Cop_say_14 : decode mm_Cop_say.2.1 14 = .ok (.aload_n 1, 1) := by decide +kernel
theorem d_Cop_say_15 : decode mm_Cop_say.2.1 15 = .ok (.iload_n 3, 1) := by decide +kernel
theorem d_Cop_say_16 : decode mm_Cop_say.2.1 16 = .ok (.invokevirtual 48, 3) := by decide +kernel
theorem d_Cop_say_19 : decode mm_Cop_say.2.1 19 = .ok (.invokevirtual 52, 3) := by decide +kernel
theorem d_Cop_say_22 : decode mm_Cop_say.2.1 22 = .ok (.iinc 3 1, 3) := by decide +kernel
theorem d_Cop_say_25 : decode mm_Cop_say.2.1 25 = .ok (.goto (-23), 3) := by decide +kernel
theorem d_Cop_say_28 : decode mm_Cop_say.2.1 28 = .ok (.iload_n 2, 1) := by decide +kernel
theorem d_Cop_say_29 : decode mm_Cop_say.2.1 29 = .ok (.istore_n 3, 1) := by decide +kernel
theorem d_Cop_say_30 : decode mm_Cop_say.2.1 30 = .ok (.iconst 0, 1) := by decide +kernel
theorem d_Cop_say_31 : decode mm_Cop_say.2.1 31 = .ok (.istore 4, 2) := by decide +kernel
theorem d_Cop_say_33 : decode mm_Cop_say.2.1 33 = .ok (.iload 4, 2) := by decide +kernel
theorem d_Cop_say_35 : decode mm_Cop_say.2.1 35 = .ok (.iconst 3, 1) := by decide +kernel
theorem d_Cop_say_36 : decode mm_Cop_say.2.1 36 = .ok (.if_icmp .ge 31, 3) := by decide +kernel
theorem d_Cop_say_39 : decode mm_Cop_say.2.1 39 = .ok (.iload_n 3, 1) := by decide +kernel
theorem d_Cop_say_40 : decode mm_Cop_say.2.1 40 = .ok (.ifCond .le 27, 3) := by decide +kernel
theorem d_Cop_say_43 : decode mm_Cop_say.2.1 43 = .ok (.aload_n 0, 1) := by decide +kernel
theorem d_Cop_say_44 : decode mm_Cop_say.2.1 44 = .ok (.getfield 9, 3) := by decide +kernel
theorem d_Cop_say_47 : decode mm_Cop_say.2.1 47 = .ok (.iload_n 3, 1) := by decide +kernel
theorem d_Cop_say_48 : decode mm_Cop_say.2.1 48 = .ok (.sipush 128, 3) := by decide +kernel
theorem d_Cop_say_51 : decode mm_Cop_say.2.1 51 = .ok (.irem, 1) := by decide +kernel
theorem d_Cop_say_52 : decode mm_Cop_say.2.1 52 = .ok (.invokevirtual 52, 3) := by decide +kernel
theorem d_Cop_say_55 : decode mm_Cop_say.2.1 55 = .ok (.iload_n 3, 1) := by decide +kernel
theorem d_Cop_say_56 : decode mm_Cop_say.2.1 56 = .ok (.sipush 128, 3) := by decide +kernel
theorem d_Cop_say_59 : decode mm_Cop_say.2.1 59 = .ok (.idiv, 1) := by decide +kernel
theorem d_Cop_say_60 : decode mm_Cop_say.2.1 60 = .ok (.istore_n 3, 1) := by decide +kernel
theorem d_Cop_say_61 : decode mm_Cop_say.2.1 61 = .ok (.iinc 4 1, 3) := by decide +kernel
theorem d_Cop_say_64 : decode mm_Cop_say.2.1 64 = .ok (.goto (-31), 3) := by decide +kernel
theorem d_Cop_say_67 : decode mm_Cop_say.2.1 67 = .ok (.aload_n 0, 1) := by decide +kernel
theorem d_Cop_say_68 : decode mm_Cop_say.2.1 68 = .ok (.getfield 9, 3) := by decide +kernel
theorem d_Cop_say_71 : decode mm_Cop_say.2.1 71 = .ok (.bipush 13, 2) := by decide +kernel
theorem d_Cop_say_73 : decode mm_Cop_say.2.1 73 = .ok (.invokevirtual 52, 3) := by decide +kernel
theorem d_Cop_say_76 : decode mm_Cop_say.2.1 76 = .ok (.aload_n 0, 1) := by decide +kernel
theorem d_Cop_say_77 : decode mm_Cop_say.2.1 77 = .ok (.getfield 9, 3) := by decide +kernel
theorem d_Cop_say_80 : decode mm_Cop_say.2.1 80 = .ok (.bipush 10, 2) := by decide +kernel
theorem d_Cop_say_82 : decode mm_Cop_say.2.1 82 = .ok (.invokevirtual 52, 3) := by decide +kernel
theorem d_Cop_say_85 : decode mm_Cop_say.2.1 85 = .ok (.return_, 1) := by decide +kernel
def wp_Cop_say_67 (w1 : Nat)  (K : MzM → Prop)  (M : MzM) : Prop := wp_Ses_accept 1 (13 : Int32) M (fun M20 => wp_Ses_accept 1 (10 : Int32) M20 (fun M23 => K M23))
def wp_Cop_say_33 (w1 : Nat)  (K : MzM → Prop) : Nat → Int32 → Int32 → MzM → Prop
  | 0, _, _, _ => False
  | r0 + 1, y3, y4, M => (((3 : Int32) ≤ y4 → wp_Cop_say_67 w1  K  M) ∧ (¬ (3 : Int32) ≤ y4 → ((y3 ≤ 0 → wp_Cop_say_67 w1  K  M) ∧ (¬ y3 ≤ 0 → wp_Ses_accept 1 (y3 - y3 / (128 : Int32) * (128 : Int32)) M (fun M15 => (wp_Cop_say_33 w1  K r0) (y3 / (128 : Int32)) (y4 + (1 : Int32)) M15)))))
def wp_Cop_say_2 (w1 : Nat)  (K : MzM → Prop) : Nat → Int32 → Int32 → MzM → Prop
  | 0, _, _, _ => False
  | r0 + 1, y2, y3, M => (((Int32.ofNat (mzStrB.getD w1 []).length) ≤ y3 → (∃ r4 : Nat, wp_Cop_say_33 w1  K r4 y2 (0 : Int32) M)) ∧ (¬ (Int32.ofNat (mzStrB.getD w1 []).length) ≤ y3 → (∃ j6 : Nat, y3.toInt = (j6 : Int) ∧ j6 < (mzStrB.getD w1 []).length ∧ wp_Ses_accept 1 ((mzStrB.getD w1 []).getD j6 0) M (fun M11 => (wp_Cop_say_2 w1  K r0) y2 (y3 + (1 : Int32)) M11))))
def wp_Cop_say (w1 : Nat) (a2 : Int32) (M : MzM) (K : MzM → Prop) : Prop := (∃ r1 : Nat, wp_Cop_say_2 w1  K r1 a2 (0 : Int32) M)
theorem tm_Cop_say_67 {G : MzG} {B : MzB} {d : Nat} {K : MzM → Prop} (hF : mzLive false B) {w1 : Nat} (hw1 : w1 < 44)    (M : MzM) (hL : mzLnk false M) (h : wp_Cop_say_67 w1  K  M) : MzS G B (d + 8) mm_Cop_say M (0, 0) (mzK0 false B K) 67 [(0, .ref (mz_ad B (22, 0)))] [] := by
  unfold wp_Cop_say_67 at h
  exact (mz_aload_n d_Cop_say_67 rfl (mz_getR (k := 0) (a := (8, 1)) cl_9 d_Cop_say_68 (by decide) wf_Cop_9 rfl (hF 22 0 rfl (by decide)) rfl (hL (22, 0) 0 (8, 1) rfl rfl (by decide)) (mz_bipush (13 : Int32) d_Cop_say_71 (by decide) (mz_callV (As := [.int (13 : Int32)]) (st := []) (hF 8 1 rfl (by decide)) rfl (mzClOf cl_4) 0 0 d_Cop_say_73 cs_Ses_accept wl_Cop_52 wi_Ses_accept wse_Ses_accept (Nat.le_of_ble_eq_true rfl) (Nat.zero_le _) (Nat.zero_le _) (MzC.mono (tm_Ses_accept (d := d) hF (by decide) hL h) (fun r9 B9 M20 hq22 => by obtain ⟨rfl, hL21, rfl, hq22⟩ := hq22; exact ⟨none, rfl, (mz_aload_n d_Cop_say_76 rfl (mz_getR (k := 0) (a := (8, 1)) cl_9 d_Cop_say_77 (by decide) wf_Cop_9 rfl (hF 22 0 rfl (by decide)) rfl (hL21 (22, 0) 0 (8, 1) rfl rfl (by decide)) (mz_bipush (10 : Int32) d_Cop_say_80 (by decide) (mz_callV (As := [.int (10 : Int32)]) (st := []) (hF 8 1 rfl (by decide)) rfl (mzClOf cl_4) 0 0 d_Cop_say_82 cs_Ses_accept wl_Cop_52 wi_Ses_accept wse_Ses_accept (Nat.le_of_ble_eq_true rfl) (Nat.zero_le _) (Nat.zero_le _) (MzC.mono (tm_Ses_accept (d := d) hF (by decide) hL21 hq22) (fun r9 B9 M23 hq25 => by obtain ⟨rfl, hL24, rfl, hq25⟩ := hq25; exact ⟨none, rfl, (mz_vret d_Cop_say_85 rfl ⟨rfl, hL24, rfl, hq25⟩)⟩))))))⟩))))))
theorem tm_Cop_say_33 {G : MzG} {B : MzB} {d : Nat} {K : MzM → Prop} (hF : mzLive false B) {w1 : Nat} (hw1 : w1 < 44)   : ∀ (r0 : Nat) (y3 : Int32) (y4 : Int32) (M : MzM), mzLnk false M → wp_Cop_say_33 w1  K r0 y3 y4 M → MzS G B (d + 8) mm_Cop_say M (0, 0) (mzK0 false B K) 33 [(0, .ref (mz_ad B (22, 0))), (3, .int y3), (4, .int y4)] [] := by
  intro r0
  induction r0 with
  | zero => intro y3 y4 M hL h; exact False.elim h
  | succ r0 hH33 =>
    intro y3 y4 M hL h
    unfold wp_Cop_say_33 at h
    exact (mz_iload d_Cop_say_33 rfl (mz_iconst (3 : Int32) d_Cop_say_35 (by decide) (mz_icmp_ge 67 d_Cop_say_36 rfl (fun hc19 => (MzS.loc [(0, .ref (mz_ad B (22, 0)))] ⟨rfl, trivial⟩ (tm_Cop_say_67 hF hw1   M hL (h.1 hc19)))) (fun hc19 => (mz_iload_n d_Cop_say_39 rfl (mz_if_le 67 d_Cop_say_40 rfl (fun hc18 => (MzS.loc [(0, .ref (mz_ad B (22, 0)))] ⟨rfl, trivial⟩ (tm_Cop_say_67 hF hw1   M hL ((h.2 hc19).1 hc18)))) (fun hc18 => (mz_aload_n d_Cop_say_43 rfl (mz_getR (k := 0) (a := (8, 1)) cl_9 d_Cop_say_44 (by decide) wf_Cop_9 rfl (hF 22 0 rfl (by decide)) rfl (hL (22, 0) 0 (8, 1) rfl rfl (by decide)) (mz_iload_n d_Cop_say_47 rfl (mz_sipush (128 : Int32) d_Cop_say_48 (by decide) (mz_irem d_Cop_say_51 (by decide) (mz_callV (As := [.int (y3 - y3 / (128 : Int32) * (128 : Int32))]) (st := []) (hF 8 1 rfl (by decide)) rfl (mzClOf cl_4) 0 0 d_Cop_say_52 cs_Ses_accept wl_Cop_52 wi_Ses_accept wse_Ses_accept (Nat.le_of_ble_eq_true rfl) (Nat.zero_le _) (Nat.zero_le _) (MzC.mono (tm_Ses_accept (d := d) hF (by decide) hL ((h.2 hc19).2 hc18)) (fun r9 B9 M15 hq17 => by obtain ⟨rfl, hL16, rfl, hq17⟩ := hq17; exact ⟨none, rfl, (mz_iload_n d_Cop_say_55 rfl (mz_sipush (128 : Int32) d_Cop_say_56 (by decide) (mz_idiv d_Cop_say_59 (by decide) (mz_istore_n d_Cop_say_60 (by decide) (mz_iinc (y4 + (1 : Int32)) d_Cop_say_61 rfl (by decide) rfl (mz_goto 33 d_Cop_say_64 rfl (MzS.loc [(0, .ref (mz_ad B (22, 0))), (3, .int (y3 / (128 : Int32))), (4, .int (y4 + (1 : Int32)))] ⟨rfl, rfl, rfl, trivial⟩ (hH33 (y3 / (128 : Int32)) (y4 + (1 : Int32)) M15 hL16 hq17))))))))⟩)))))))))))))))
theorem tm_Cop_say_2 {G : MzG} {B : MzB} {d : Nat} {K : MzM → Prop} (hF : mzLive false B) {w1 : Nat} (hw1 : w1 < 44)   : ∀ (r0 : Nat) (y2 : Int32) (y3 : Int32) (M : MzM), mzLnk false M → wp_Cop_say_2 w1  K r0 y2 y3 M → MzS G B (d + 8) mm_Cop_say M (0, 0) (mzK0 false B K) 2 [(0, .ref (mz_ad B (22, 0))), (1, .ref (G.2 (100 + w1))), (2, .int y2), (3, .int y3)] [] := by
  intro r0
  induction r0 with
  | zero => intro y2 y3 M hL h; exact False.elim h
  | succ r0 hH2 =>
    intro y2 y3 M hL h
    unfold wp_Cop_say_2 at h
    exact (mz_iload_n d_Cop_say_2 rfl (mz_aload_n d_Cop_say_3 rfl (mz_callR (As := []) (st := [.int y3]) 0 0 d_Cop_say_4 cs_JS_length wl_Cop_42 wi_JS_length wse_JS_length (fun A s hr => (mz_u hr (mz_strIn hw1)).1) (Nat.le_of_ble_eq_true rfl) (Nat.zero_le _) (Nat.zero_le _) (MzC.mono (tm_JS_length (d := (d + 6)) (K := fun v9 M9 => v9 = (Int32.ofNat (mzStrB.getD w1 []).length) ∧ M = M9) hw1 hL ⟨rfl, rfl⟩) (fun r9 B9 M9 hq9 => by obtain ⟨rfl, hL3, v9, rfl, rfl, rfl⟩ := hq9; exact ⟨_, rfl, (mz_icmp_ge 28 d_Cop_say_7 rfl (fun hc14 => (mz_iload_n d_Cop_say_28 rfl (mz_istore_n d_Cop_say_29 (by decide) (mz_iconst (0 : Int32) d_Cop_say_30 (by decide) (mz_istore d_Cop_say_31 (by decide) (MzS.loc [(0, .ref (mz_ad B (22, 0))), (3, .int y2), (4, .int (0 : Int32))] ⟨rfl, rfl, rfl, trivial⟩ (match (h.1 hc14) with | ⟨r4, h5⟩ => tm_Cop_say_33 hF hw1  r4 y2 (0 : Int32) M hL3 h5))))))) (fun hc14 => (mz_aload_n d_Cop_say_10 rfl (mz_getR (k := 0) (a := (8, 1)) cl_9 d_Cop_say_11 (by decide) wf_Cop_9 rfl (hF 22 0 rfl (by decide)) rfl (hL3 (22, 0) 0 (8, 1) rfl rfl (by decide)) (mz_aload_n d_Cop_say_14 rfl (mz_iload_n d_Cop_say_15 rfl (match (h.2 hc14) with | ⟨j6, h7, h8, h9⟩ => mz_callR (As := [.int y3]) (st := [.ref (mz_ad B (8, 1))]) 0 0 d_Cop_say_16 cs_JS_charAt wl_Cop_48 wi_JS_charAt wse_JS_charAt (fun A s hr => (mz_u hr (mz_strIn hw1)).1) (Nat.le_of_ble_eq_true rfl) (Nat.zero_le _) (Nat.zero_le _) (MzC.mono (tm_JS_charAt (d := (d + 4)) (K := fun v9 M9 => v9 = ((mzStrB.getD w1 []).getD j6 0) ∧ M = M9) hw1 j6 h7 h8 hL3 ⟨rfl, rfl⟩) (fun r9 B9 M9 hq9 => by obtain ⟨rfl, hL10, v9, rfl, rfl, rfl⟩ := hq9; exact ⟨_, rfl, (mz_callV (As := [.int ((mzStrB.getD w1 []).getD j6 0)]) (st := []) (hF 8 1 rfl (by decide)) rfl (mzClOf cl_4) 0 0 d_Cop_say_19 cs_Ses_accept wl_Cop_52 wi_Ses_accept wse_Ses_accept (Nat.le_of_ble_eq_true rfl) (Nat.zero_le _) (Nat.zero_le _) (MzC.mono (tm_Ses_accept (d := d) hF (by decide) hL10 h9) (fun r9 B9 M11 hq13 => by obtain ⟨rfl, hL12, rfl, hq13⟩ := hq13; exact ⟨none, rfl, (mz_iinc (y3 + (1 : Int32)) d_Cop_say_22 rfl (by decide) rfl (mz_goto 2 d_Cop_say_25 rfl (MzS.loc [(0, .ref (mz_ad B (22, 0))), (1, .ref (G.2 (100 + w1))), (2, .int y2), (3, .int (y3 + (1 : Int32)))] ⟨rfl, rfl, rfl, rfl, trivial⟩ (hH2 y2 (y3 + (1 : Int32)) M11 hL12 hq13))))⟩)))⟩)))))))))⟩)))))
theorem tm_Cop_say {G : MzG} {B : MzB} {d : Nat} {K : MzM → Prop} (hF : mzLive false B) {w1 : Nat} (hw1 : w1 < 44) {a2 : Int32} {M : MzM} (hL : mzLnk false M) (h : wp_Cop_say w1 a2 M K) : MzC G B (d + 8) mm_Cop_say [.ref (mz_ad B (22, 0)), .ref (G.2 (100 + w1)), .int a2] M (0, 0) (mzK0 false B K) := by
  unfold wp_Cop_say at h
  exact MzC.of rfl (Nat.le_of_ble_eq_true rfl) (show MzS G B (d + 8) mm_Cop_say M (0, 0) (mzK0 false B K) 0 [(0, .ref (mz_ad B (22, 0))), (1, .ref (G.2 (100 + w1))), (2, .int a2)] [] from (mz_iconst (0 : Int32) d_Cop_say_0 (by decide) (mz_istore_n d_Cop_say_1 (by decide) (MzS.loc [(0, .ref (mz_ad B (22, 0))), (1, .ref (G.2 (100 + w1))), (2, .int a2), (3, .int (0 : Int32))] ⟨rfl, rfl, rfl, rfl, trivial⟩ (match h with | ⟨r1, h2⟩ => tm_Cop_say_2 hF hw1  r1 a2 (0 : Int32) M hL h2)))))
def mm_Cop_goTo : MzT := (⟨"ParcelLine$Copier", "goTo", "(I)I"⟩, prog_5_method_5_code, 2, (Option.some Jvm.ClassFile.FieldType.int))
theorem cs_Cop_goTo {mm : MzT} : mzCall mm mm_Cop_goTo 1 := ⟨wn_Cop, wco_Cop_goTo, by decide +kernel, by decide⟩
theorem d_Cop_goTo_0 : decode mm_Cop_goTo.2.1 0 = .ok (.aload_n 0, 1) := by decide +kernel
theorem d_Cop_goTo_1 : decode mm_Cop_goTo.2.1 1 = .ok (.iload_n 1, 1) := by decide +kernel
theorem d_Cop_goTo_2 : decode mm_Cop_goTo.2.1 2 = .ok (.putfield 33, 3) := by decide +kernel
theorem d_Cop_goTo_5 : decode mm_Cop_goTo.2.1 5 = .ok (.aload_n 0, 1) := by decide +kernel
theorem d_Cop_goTo_6 : decode mm_Cop_goTo.2.1 6 = .ok (.getfield 33, 3) := by decide +kernel
theorem d_Cop_goTo_9 : decode mm_Cop_goTo.2.1 9 = .ok (.ireturn, 1) := by decide +kernel
def wp_Cop_goTo  (a1 : Int32) (M : MzM) (K : Int32 → MzM → Prop) : Prop := (∀ M1 : MzM, M1 = mz_si M (22, 0) 6 a1 → K (mz_i M1 (22, 0) 6) M1)
theorem tm_Cop_goTo {G : MzG} {B : MzB} {d : Nat} {K : Int32 → MzM → Prop} (hF : mzLive false B)   {a1 : Int32} {M : MzM} (hL : mzLnk false M) (h : wp_Cop_goTo  a1 M K) : MzC G B d mm_Cop_goTo [.ref (mz_ad B (22, 0)), .int a1] M (0, 0) (mzK1 false B K) := by
  unfold wp_Cop_goTo at h
  exact MzC.of rfl (Nat.le_of_ble_eq_true rfl) (show MzS G B d mm_Cop_goTo M (0, 0) (mzK1 false B K) 0 [(0, .ref (mz_ad B (22, 0))), (1, .int a1)] [] from (mz_aload_n d_Cop_goTo_0 rfl (mz_iload_n d_Cop_goTo_1 rfl (mz_putI (k := 6) cl_9 d_Cop_goTo_2 (by decide) wf_Cop_33 rfl rfl rfl rfl (hF 22 0 rfl (by decide)) rfl (let M1 : MzM := mz_si M (22, 0) 6 a1; (mz_aload_n d_Cop_goTo_5 rfl (mz_getI (k := 6) cl_9 d_Cop_goTo_6 (by decide) wf_Cop_33 rfl (hF 22 0 rfl (by decide)) rfl (mz_iret .int d_Cop_goTo_9 rfl rfl ⟨rfl, hL, _, rfl, (h M1 rfl)⟩))))))))
def mm_Cop_logIn : MzT := (⟨"ParcelLine$Copier", "logIn", "()I"⟩, prog_5_method_8_code, 1, (Option.some Jvm.ClassFile.FieldType.int))
theorem cs_Cop_logIn {mm : MzT} : mzCall mm mm_Cop_logIn 0 := ⟨wn_Cop, wco_Cop_logIn, by decide +kernel, by decide⟩
theorem d_Cop_logIn_0 : decode mm_Cop_logIn.2.1 0 = .ok (.aload_n 0, 1) := by decide +kernel
theorem d_Cop_logIn_1 : decode mm_Cop_logIn.2.1 1 = .ok (.ldc 58, 2) := by decide +kernel
theorem d_Cop_logIn_3 : decode mm_Cop_logIn.2.1 3 = .ok (.iconst 0, 1) := by decide +kernel
theorem d_Cop_logIn_4 : decode mm_Cop_logIn.2.1 4 = .ok (.invokevirtual 60, 3) := by decide +kernel
theorem d_Cop_logIn_7 : decode mm_Cop_logIn.2.1 7 = .ok (.aload_n 0, 1) := by decide +kernel
theorem d_Cop_logIn_8 : decode mm_Cop_logIn.2.1 8 = .ok (.ldc 64, 2) := by decide +kernel
theorem d_Cop_logIn_10 : decode mm_Cop_logIn.2.1 10 = .ok (.iconst 0, 1) := by decide +kernel
theorem d_Cop_logIn_11 : decode mm_Cop_logIn.2.1 11 = .ok (.invokevirtual 60, 3) := by decide +kernel
theorem d_Cop_logIn_14 : decode mm_Cop_logIn.2.1 14 = .ok (.aload_n 0, 1) := by decide +kernel
theorem d_Cop_logIn_15 : decode mm_Cop_logIn.2.1 15 = .ok (.ldc 66, 2) := by decide +kernel
theorem d_Cop_logIn_17 : decode mm_Cop_logIn.2.1 17 = .ok (.iconst 0, 1) := by decide +kernel
theorem d_Cop_logIn_18 : decode mm_Cop_logIn.2.1 18 = .ok (.invokevirtual 60, 3) := by decide +kernel
theorem d_Cop_logIn_21 : decode mm_Cop_logIn.2.1 21 = .ok (.aload_n 0, 1) := by decide +kernel
theorem d_Cop_logIn_22 : decode mm_Cop_logIn.2.1 22 = .ok (.ldc 68, 2) := by decide +kernel
theorem d_Cop_logIn_24 : decode mm_Cop_logIn.2.1 24 = .ok (.iconst 0, 1) := by decide +kernel
theorem d_Cop_logIn_25 : decode mm_Cop_logIn.2.1 25 = .ok (.invokevirtual 60, 3) := by decide +kernel
theorem d_Cop_logIn_28 : decode mm_Cop_logIn.2.1 28 = .ok (.aload_n 0, 1) := by decide +kernel
theorem d_Cop_logIn_29 : decode mm_Cop_logIn.2.1 29 = .ok (.iconst 1, 1) := by decide +kernel
theorem d_Cop_logIn_30 : decode mm_Cop_logIn.2.1 30 = .ok (.invokevirtual 70, 3) := by decide +kernel
theorem d_Cop_logIn_33 : decode mm_Cop_logIn.2.1 33 = .ok (.ireturn, 1) := by decide +kernel
def wp_Cop_logIn   (M : MzM) (K : Int32 → MzM → Prop) : Prop := wp_Cop_say 12 (0 : Int32) M (fun M1 => wp_Cop_say 13 (0 : Int32) M1 (fun M4 => wp_Cop_say 14 (0 : Int32) M4 (fun M7 => wp_Cop_say 15 (0 : Int32) M7 (fun M10 => wp_Cop_goTo  (1 : Int32) M10 (fun v16 M13 => K v16 M13)))))
theorem tm_Cop_logIn {G : MzG} {B : MzB} {d : Nat} {K : Int32 → MzM → Prop} (hF : mzLive false B)    {M : MzM} (hL : mzLnk false M) (h : wp_Cop_logIn   M K) : MzC G B (d + 9) mm_Cop_logIn [.ref (mz_ad B (22, 0))] M (0, 0) (mzK1 false B K) := by
  unfold wp_Cop_logIn at h
  exact MzC.of rfl (Nat.le_of_ble_eq_true rfl) (show MzS G B (d + 9) mm_Cop_logIn M (0, 0) (mzK1 false B K) 0 [(0, .ref (mz_ad B (22, 0)))] [] from (mz_aload_n d_Cop_logIn_0 rfl (mz_ldcS d_Cop_logIn_1 (fun A s hr => (mz_u hr (mz_strIn (k := 12) (by decide))).2.2.2.2) (mz_iconst (0 : Int32) d_Cop_logIn_3 (by decide) (mz_callV (As := [.ref (G.2 (100 + 12)), .int (0 : Int32)]) (st := []) (hF 22 0 rfl (by decide)) rfl (mzClOf cl_9) 0 0 d_Cop_logIn_4 cs_Cop_say wl_Cop_60 wi_Cop_say wse_Cop_say (Nat.le_of_ble_eq_true rfl) (Nat.zero_le _) (Nat.zero_le _) (MzC.mono (tm_Cop_say (d := d) hF (by decide) hL h) (fun r9 B9 M1 hq3 => by obtain ⟨rfl, hL2, rfl, hq3⟩ := hq3; exact ⟨none, rfl, (mz_aload_n d_Cop_logIn_7 rfl (mz_ldcS d_Cop_logIn_8 (fun A s hr => (mz_u hr (mz_strIn (k := 13) (by decide))).2.2.2.2) (mz_iconst (0 : Int32) d_Cop_logIn_10 (by decide) (mz_callV (As := [.ref (G.2 (100 + 13)), .int (0 : Int32)]) (st := []) (hF 22 0 rfl (by decide)) rfl (mzClOf cl_9) 0 0 d_Cop_logIn_11 cs_Cop_say wl_Cop_60 wi_Cop_say wse_Cop_say (Nat.le_of_ble_eq_true rfl) (Nat.zero_le _) (Nat.zero_le _) (MzC.mono (tm_Cop_say (d := d) hF (by decide) hL2 hq3) (fun r9 B9 M4 hq6 => by obtain ⟨rfl, hL5, rfl, hq6⟩ := hq6; exact ⟨none, rfl, (mz_aload_n d_Cop_logIn_14 rfl (mz_ldcS d_Cop_logIn_15 (fun A s hr => (mz_u hr (mz_strIn (k := 14) (by decide))).2.2.2.2) (mz_iconst (0 : Int32) d_Cop_logIn_17 (by decide) (mz_callV (As := [.ref (G.2 (100 + 14)), .int (0 : Int32)]) (st := []) (hF 22 0 rfl (by decide)) rfl (mzClOf cl_9) 0 0 d_Cop_logIn_18 cs_Cop_say wl_Cop_60 wi_Cop_say wse_Cop_say (Nat.le_of_ble_eq_true rfl) (Nat.zero_le _) (Nat.zero_le _) (MzC.mono (tm_Cop_say (d := d) hF (by decide) hL5 hq6) (fun r9 B9 M7 hq9 => by obtain ⟨rfl, hL8, rfl, hq9⟩ := hq9; exact ⟨none, rfl, (mz_aload_n d_Cop_logIn_21 rfl (mz_ldcS d_Cop_logIn_22 (fun A s hr => (mz_u hr (mz_strIn (k := 15) (by decide))).2.2.2.2) (mz_iconst (0 : Int32) d_Cop_logIn_24 (by decide) (mz_callV (As := [.ref (G.2 (100 + 15)), .int (0 : Int32)]) (st := []) (hF 22 0 rfl (by decide)) rfl (mzClOf cl_9) 0 0 d_Cop_logIn_25 cs_Cop_say wl_Cop_60 wi_Cop_say wse_Cop_say (Nat.le_of_ble_eq_true rfl) (Nat.zero_le _) (Nat.zero_le _) (MzC.mono (tm_Cop_say (d := d) hF (by decide) hL8 hq9) (fun r9 B9 M10 hq12 => by obtain ⟨rfl, hL11, rfl, hq12⟩ := hq12; exact ⟨none, rfl, (mz_aload_n d_Cop_logIn_28 rfl (mz_iconst (1 : Int32) d_Cop_logIn_29 (by decide) (mz_callV (As := [.int (1 : Int32)]) (st := []) (hF 22 0 rfl (by decide)) rfl (mzClOf cl_9) 0 0 d_Cop_logIn_30 cs_Cop_goTo wl_Cop_70 wi_Cop_goTo wse_Cop_goTo (Nat.le_of_ble_eq_true rfl) (Nat.zero_le _) (Nat.zero_le _) (MzC.mono (tm_Cop_goTo (d := (d + 8)) hF  hL11 hq12) (fun r9 B9 M13 hq15 => by obtain ⟨rfl, hL14, v16, rfl, hq15⟩ := hq15; exact ⟨_, rfl, (mz_iret .int d_Cop_logIn_33 rfl rfl ⟨rfl, hL14, _, rfl, hq15⟩)⟩)))))⟩))))))⟩))))))⟩))))))⟩)))))))
