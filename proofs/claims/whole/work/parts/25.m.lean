def mm_Mo_command : MzT := (⟨"ParcelLineModel", "command", "()I"⟩, prog_14_method_24_code, 5, (Option.some Jvm.ClassFile.FieldType.int))
theorem cs_Mo_command {mm : MzT} : mzCall mm mm_Mo_command 0 := ⟨wn_Mo, wco_Mo_command, by decide +kernel, by decide⟩
theorem d_Mo_command_0 : decode mm_Mo_command.2.1 0 = .ok (.iconst 0, 1) := by decide +kernel
theorem d_Mo_command_1 : decode mm_Mo_command.2.1 1 = .ok (.istore_n 1, 1) := by decide +kernel
theorem d_Mo_command_2 : decode mm_Mo_command.2.1 2 = .ok (.iconst 0, 1) := by decide +kernel
theorem d_Mo_command_3 : decode mm_Mo_command.2.1 3 = .ok (.istore_n 2, 1) := by decide +kernel
theorem d_Mo_command_4 : decode mm_Mo_command.2.1 4 = .ok (.iload_n 1, 1) := by decide +kernel
theorem d_Mo_command_5 : decode mm_Mo_command.2.1 5 = .ok (.aload_n 0, 1) := by decide +kernel
theorem d_Mo_command_6 : decode mm_Mo_command.2.1 6 = .ok (.getfield 62, 3) := by decide +kernel
theorem d_Mo_command_9 : decode mm_Mo_command.2.1 9 = .ok (.aload_n 0, 1) := by decide +kernel
theorem d_Mo_command_10 : decode mm_Mo_command.2.1 10 = .ok (.getfield 137, 3) := by decide +kernel
theorem d_Mo_command_13 : decode mm_Mo_command.2.1 13 = .ok (.iaload, 1) := by decide +kernel
theorem d_Mo_command_14 : decode mm_Mo_command.2.1 14 = .ok (.if_icmp .ge 91, 3) := by decide +kernel
theorem d_Mo_command_17 : decode mm_Mo_command.2.1 17 = .ok (.aload_n 0, 1) := by decide +kernel
theorem d_Mo_command_18 : decode mm_Mo_command.2.1 18 = .ok (.iload_n 1, 1) := by decide +kernel
theorem d_Mo_command_19 : decode mm_Mo_command.2.1 19 = .ok (.invokevirtual 189, 3) := by decide +kernel
theorem d_Mo_command_22 : decode mm_Mo_command.2.1 22 = .ok (.bipush 32, 2) := by decide +kernel
theorem d_Mo_command_24 : decode mm_Mo_command.2.1 24 = .ok (.if_icmp .eq 81, 3) := by decide +kernel
theorem d_Mo_command_27 : decode mm_Mo_command.2.1 27 = .ok (.aload_n 0, 1) := by decide +kernel
theorem d_Mo_command_28 : decode mm_Mo_command.2.1 28 = .ok (.iload_n 1, 1) := by decide +kernel
theorem d_Mo_command_29 : decode mm_Mo_command.2.1 29 = .ok (.invokevirtual 189, 3) := by decide +kernel
theorem d_Mo_command_32 : decode mm_Mo_command.2.1 32 = .ok (.istore_n 3, 1) := by decide +kernel
theorem d_Mo_command_33 : decode mm_Mo_command.2.1 33 = .ok (.iload_n 3, 1) := by decide +kernel
theorem d_Mo_command_34 : decode mm_Mo_command.2.1 34 = .ok (.bipush 97, 2) := by decide +kernel
theorem d_Mo_command_36 : decode mm_Mo_command.2.1 36 = .ok (.if_icmp .lt 16, 3) := by decide +kernel
theorem d_Mo_command_39 : decode mm_Mo_command.2.1 39 = .ok (.iload_n 3, 1) := by decide +kernel
theorem d_Mo_command_40 : decode mm_Mo_command.2.1 40 = .ok (.bipush 122, 2) := by decide +kernel
theorem d_Mo_command_42 : decode mm_Mo_command.2.1 42 = .ok (.if_icmp .gt 10, 3) := by decide +kernel
theorem d_Mo_command_45 : decode mm_Mo_command.2.1 45 = .ok (.iload_n 3, 1) := by decide +kernel
theorem d_Mo_command_46 : decode mm_Mo_command.2.1 46 = .ok (.bipush 32, 2) := by decide +kernel
theorem d_Mo_command_48 : decode mm_Mo_command.2.1 48 = .ok (.isub, 1) := by decide +kernel
theorem d_Mo_command_49 : decode mm_Mo_command.2.1 49 = .ok (.goto 4, 3) := by decide +kernel
theorem d_Mo_command_52 : decode mm_Mo_command.2.1 52 = .ok (.iload_n 3, 1) := by decide +kernel
theorem d_Mo_command_53 : decode mm_Mo_command.2.1 53 = .ok (.istore_n 3, 1) := by decide +kernel
theorem d_Mo_command_54 : decode mm_Mo_command.2.1 54 = .ok (.iload_n 1, 1) := by decide +kernel
theorem d_Mo_command_55 : decode mm_Mo_command.2.1 55 = .ok (.iconst 4, 1) := by decide +kernel
theorem d_Mo_command_56 : decode mm_Mo_command.2.1 56 = .ok (.if_icmp .ge 24, 3) := by decide +kernel
theorem d_Mo_command_59 : decode mm_Mo_command.2.1 59 = .ok (.iload_n 3, 1) := by decide +kernel
theorem d_Mo_command_60 : decode mm_Mo_command.2.1 60 = .ok (.ifCond .le 20, 3) := by decide +kernel
theorem d_Mo_command_63 : decode mm_Mo_command.2.1 63 = .ok (.iload_n 3, 1) := by decide +kernel
theorem d_Mo_command_64 : decode mm_Mo_command.2.1 64 = .ok (.sipush 128, 3) := by decide +kernel
theorem d_Mo_command_67 : decode mm_Mo_command.2.1 67 = .ok (.if_icmp .ge 13, 3) := by decide +kernel
theorem d_Mo_command_70 : decode mm_Mo_command.2.1 70 = .ok (.sipush 128, 3) := by decide +kernel
theorem d_Mo_command_73 : decode mm_Mo_command.2.1 73 = .ok (.iload_n 2, 1) := by decide +kernel
theorem d_Mo_command_74 : decode mm_Mo_command.2.1 74 = .ok (.imul, 1) := by decide +kernel
theorem d_Mo_command_75 : decode mm_Mo_command.2.1 75 = .ok (.iload_n 3, 1) := by decide +kernel
theorem d_Mo_command_76 : decode mm_Mo_command.2.1 76 = .ok (.iadd, 1) := by decide +kernel
theorem d_Mo_command_77 : decode mm_Mo_command.2.1 77 = .ok (.goto 4, 3) := by decide +kernel
theorem d_Mo_command_80 : decode mm_Mo_command.2.1 80 = .ok (.iconst (-1), 1) := by decide +kernel
theorem d_Mo_command_81 : decode mm_Mo_command.2.1 81 = .ok (.istore_n 2, 1) := by decide +kernel
theorem d_Mo_command_82 : decode mm_Mo_command.2.1 82 = .ok (.iload_n 2, 1) := by decide +kernel
theorem d_Mo_command_83 : decode mm_Mo_command.2.1 83 = .ok (.ifCond .ge 16, 3) := by decide +kernel
theorem d_Mo_command_86 : decode mm_Mo_command.2.1 86 = .ok (.aload_n 0, 1) := by decide +kernel
theorem d_Mo_command_87 : decode mm_Mo_command.2.1 87 = .ok (.getfield 62, 3) := by decide +kernel
theorem d_Mo_command_90 : decode mm_Mo_command.2.1 90 = .ok (.aload_n 0, 1) := by decide +kernel
theorem d_Mo_command_91 : decode mm_Mo_command.2.1 91 = .ok (.getfield 137, 3) := by decide +kernel
theorem d_Mo_command_94 : decode mm_Mo_command.2.1 94 = .ok (.iaload, 1) := by decide +kernel
theorem d_Mo_command_95 : decode mm_Mo_command.2.1 95 = .ok (.istore_n 1, 1) := by decide +kernel
theorem d_Mo_command_96 : decode mm_Mo_command.2.1 96 = .ok (.goto 6, 3) := by decide +kernel
theorem d_Mo_command_99 : decode mm_Mo_command.2.1 99 = .ok (.iinc 1 1, 3) := by decide +kernel
theorem d_Mo_command_102 : decode mm_Mo_command.2.1 102 = .ok (.goto (-98), 3) := by decide +kernel
theorem d_Mo_command_105 : decode mm_Mo_command.2.1 105 = .ok (.aload_n 0, 1) := by decide +kernel
theorem d_Mo_command_106 : decode mm_Mo_command.2.1 106 = .ok (.iload_n 1, 1) := by decide +kernel
theorem d_Mo_command_107 : decode mm_Mo_command.2.1 107 = .ok (.iconst 1, 1) := by decide +kernel
theorem d_Mo_command_108 : decode mm_Mo_command.2.1 108 = .ok (.iadd, 1) := by decide +kernel
theorem d_Mo_command_109 : decode mm_Mo_command.2.1 109 = .ok (.putfield 192, 3) := by decide +kernel
theorem d_Mo_command_112 : decode mm_Mo_command.2.1 112 = .ok (.iconst 0, 1) := by decide +kernel
theorem d_Mo_command_113 : decode mm_Mo_command.2.1 113 = .ok (.istore_n 3, 1) := by decide +kernel
theorem d_Mo_command_114 : decode mm_Mo_command.2.1 114 = .ok (.iconst 1, 1) := by decide +kernel
theorem d_Mo_command_115 : decode mm_Mo_command.2.1 115 = .ok (.istore 4, 2) := by decide +kernel
theorem d_Mo_command_117 : decode mm_Mo_command.2.1 117 = .ok (.iload 4, 2) := by decide +kernel
theorem d_Mo_command_119 : decode mm_Mo_command.2.1 119 = .ok (.bipush 21, 2) := by decide +kernel
theorem d_Mo_command_121 : decode mm_Mo_command.2.1 121 = .ok (.if_icmp .gt 27, 3) := by decide +kernel
theorem d_Mo_command_124 : decode mm_Mo_command.2.1 124 = .ok (.iload_n 2, 1) := by decide +kernel
theorem d_Mo_command_125 : decode mm_Mo_command.2.1 125 = .ok (.ifCond .le 17, 3) := by decide +kernel
theorem d_Mo_command_128 : decode mm_Mo_command.2.1 128 = .ok (.aload_n 0, 1) := by decide +kernel
theorem d_Mo_command_129 : decode mm_Mo_command.2.1 129 = .ok (.getfield 28, 3) := by decide +kernel
theorem d_Mo_command_132 : decode mm_Mo_command.2.1 132 = .ok (.iload 4, 2) := by decide +kernel
theorem d_Mo_command_134 : decode mm_Mo_command.2.1 134 = .ok (.iaload, 1) := by decide +kernel
theorem d_Mo_command_135 : decode mm_Mo_command.2.1 135 = .ok (.iload_n 2, 1) := by decide +kernel
theorem d_Mo_command_136 : decode mm_Mo_command.2.1 136 = .ok (.if_icmp .ne 6, 3) := by decide +kernel
theorem d_Mo_command_139 : decode mm_Mo_command.2.1 139 = .ok (.iload 4, 2) := by decide +kernel
theorem d_Mo_command_141 : decode mm_Mo_command.2.1 141 = .ok (.istore_n 3, 1) := by decide +kernel
theorem d_Mo_command_142 : decode mm_Mo_command.2.1 142 = .ok (.iinc 4 1, 3) := by decide +kernel
theorem d_Mo_command_145 : decode mm_Mo_command.2.1 145 = .ok (.goto (-28), 3) := by decide +kernel
theorem d_Mo_command_148 : decode mm_Mo_command.2.1 148 = .ok (.iload_n 3, 1) := by decide +kernel
theorem d_Mo_command_149 : decode mm_Mo_command.2.1 149 = .ok (.ireturn, 1) := by decide +kernel
def wp_Mo_command_102  (H4 : Int32 → Int32 → MzM → Prop) (K : Int32 → MzM → Prop) (y1 : Int32) (y2 : Int32) (M : MzM) : Prop := H4 y1 y2 M
def wp_Mo_command_81  (H4 : Int32 → Int32 → MzM → Prop) (K : Int32 → MzM → Prop) (y1 : Int32) (ys0 : Int32) (M : MzM) : Prop := ((0 ≤ ys0 → wp_Mo_command_102  H4 K (y1 + (1 : Int32)) ys0 M) ∧ (¬ 0 ≤ ys0 → (∃ j32 : Nat, (mz_i M (30, 0) 29).toInt = (j32 : Int) ∧ j32 < 2 ∧ wp_Mo_command_102  H4 K (mz_i M (41, 0) j32) ys0 M)))
def wp_Mo_command_80  (H4 : Int32 → Int32 → MzM → Prop) (K : Int32 → MzM → Prop) (y1 : Int32) (M : MzM) : Prop := wp_Mo_command_81  H4 K y1 (-1 : Int32) M
def wp_Mo_command_53  (H4 : Int32 → Int32 → MzM → Prop) (K : Int32 → MzM → Prop) (y1 : Int32) (y2 : Int32) (ys0 : Int32) (M : MzM) : Prop := (((4 : Int32) ≤ y1 → wp_Mo_command_80  H4 K y1 M) ∧ (¬ (4 : Int32) ≤ y1 → ((ys0 ≤ 0 → wp_Mo_command_80  H4 K y1 M) ∧ (¬ ys0 ≤ 0 → (((128 : Int32) ≤ ys0 → wp_Mo_command_80  H4 K y1 M) ∧ (¬ (128 : Int32) ≤ ys0 → wp_Mo_command_81  H4 K y1 (((128 : Int32) * y2) + ys0) M))))))
def wp_Mo_command_52  (H4 : Int32 → Int32 → MzM → Prop) (K : Int32 → MzM → Prop) (y1 : Int32) (y2 : Int32) (y3 : Int32) (M : MzM) : Prop := wp_Mo_command_53  H4 K y1 y2 y3 M
def wp_Mo_command_142  (H117 : Int32 → Int32 → Int32 → MzM → Prop) (K : Int32 → MzM → Prop) (y2 : Int32) (y3 : Int32) (y4 : Int32) (M : MzM) : Prop := H117 y2 y3 (y4 + (1 : Int32)) M
def wp_Mo_command_117   (K : Int32 → MzM → Prop) : Nat → Int32 → Int32 → Int32 → MzM → Prop
  | 0, _, _, _, _ => False
  | r0 + 1, y2, y3, y4, M => (((21 : Int32) < y4 → K y3 M) ∧ (¬ (21 : Int32) < y4 → ((y2 ≤ 0 → wp_Mo_command_142  (wp_Mo_command_117   K r0) K y2 y3 y4 M) ∧ (¬ y2 ≤ 0 → (∃ j25 : Nat, y4.toInt = (j25 : Int) ∧ j25 < 22 ∧ ((¬ (mz_i M (31, 0) j25) = y2 → wp_Mo_command_142  (wp_Mo_command_117   K r0) K y2 y3 y4 M) ∧ ((mz_i M (31, 0) j25) = y2 → wp_Mo_command_142  (wp_Mo_command_117   K r0) K y2 y4 y4 M)))))))
def wp_Mo_command_105   (K : Int32 → MzM → Prop) (y1 : Int32) (y2 : Int32) (M : MzM) : Prop := (∀ M19 : MzM, M19 = mz_si M (30, 0) 32 (y1 + (1 : Int32)) → (∃ r20 : Nat, wp_Mo_command_117   K r20 y2 (0 : Int32) (1 : Int32) M19))
def wp_Mo_command_4   (K : Int32 → MzM → Prop) : Nat → Int32 → Int32 → MzM → Prop
  | 0, _, _, _ => False
  | r0 + 1, y1, y2, M => (∃ j3 : Nat, (mz_i M (30, 0) 29).toInt = (j3 : Int) ∧ j3 < 2 ∧ (((mz_i M (41, 0) j3) ≤ y1 → wp_Mo_command_105   K y1 y2 M) ∧ (¬ (mz_i M (41, 0) j3) ≤ y1 → wp_Mo_ch  y1 M (fun v10 M7 => ((v10 = (32 : Int32) → wp_Mo_command_105   K y1 y2 M7) ∧ (¬ v10 = (32 : Int32) → wp_Mo_ch  y1 M7 (fun v14 M11 => ((v14 < (97 : Int32) → wp_Mo_command_52  (wp_Mo_command_4   K r0) K y1 y2 v14 M11) ∧ (¬ v14 < (97 : Int32) → (((122 : Int32) < v14 → wp_Mo_command_52  (wp_Mo_command_4   K r0) K y1 y2 v14 M11) ∧ (¬ (122 : Int32) < v14 → wp_Mo_command_53  (wp_Mo_command_4   K r0) K y1 y2 (v14 - (32 : Int32)) M11)))))))))))
def wp_Mo_command   (M : MzM) (K : Int32 → MzM → Prop) : Prop := (∃ r1 : Nat, wp_Mo_command_4   K r1 (0 : Int32) (0 : Int32) M)
theorem tm_Mo_command_102 {G : MzG} {B : MzB} {d : Nat} {K : Int32 → MzM → Prop} (hF : mzLive true B)   {H4 : Int32 → Int32 → MzM → Prop} (hH4 : ∀ (y1 : Int32) (y2 : Int32) (M : MzM), mzLnk true M → H4 y1 y2 M → MzS G B (d + 1) mm_Mo_command M (0, 0) (mzK1 true B K) 4 [(0, .ref (mz_ad B (30, 0))), (1, .int y1), (2, .int y2)] []) (y1 : Int32) (y2 : Int32) (M : MzM) (hL : mzLnk true M) (h : wp_Mo_command_102  H4 K y1 y2 M) : MzS G B (d + 1) mm_Mo_command M (0, 0) (mzK1 true B K) 102 [(0, .ref (mz_ad B (30, 0))), (1, .int y1), (2, .int y2)] [] := by
  unfold wp_Mo_command_102 at h
  exact (mz_goto 4 d_Mo_command_102 rfl (MzS.loc [(0, .ref (mz_ad B (30, 0))), (1, .int y1), (2, .int y2)] ⟨rfl, rfl, rfl, trivial⟩ (hH4 y1 y2 M hL h)))
theorem tm_Mo_command_81 {G : MzG} {B : MzB} {d : Nat} {K : Int32 → MzM → Prop} (hF : mzLive true B)   {H4 : Int32 → Int32 → MzM → Prop} (hH4 : ∀ (y1 : Int32) (y2 : Int32) (M : MzM), mzLnk true M → H4 y1 y2 M → MzS G B (d + 1) mm_Mo_command M (0, 0) (mzK1 true B K) 4 [(0, .ref (mz_ad B (30, 0))), (1, .int y1), (2, .int y2)] []) (y1 : Int32) (ys0 : Int32) (M : MzM) (hL : mzLnk true M) (h : wp_Mo_command_81  H4 K y1 ys0 M) : MzS G B (d + 1) mm_Mo_command M (0, 0) (mzK1 true B K) 81 [(0, .ref (mz_ad B (30, 0))), (1, .int y1)] [.int ys0] := by
  unfold wp_Mo_command_81 at h
  exact (mz_istore_n d_Mo_command_81 (by decide) (mz_iload_n d_Mo_command_82 rfl (mz_if_ge 99 d_Mo_command_83 rfl (fun hc36 => (mz_iinc (y1 + (1 : Int32)) d_Mo_command_99 rfl (by decide) rfl (MzS.loc [(0, .ref (mz_ad B (30, 0))), (1, .int (y1 + (1 : Int32))), (2, .int ys0)] ⟨rfl, rfl, rfl, trivial⟩ (tm_Mo_command_102 hF  hH4 (y1 + (1 : Int32)) ys0 M hL (h.1 hc36))))) (fun hc36 => (mz_aload_n d_Mo_command_86 rfl (mz_getR (k := 11) (a := (41, 0)) cl_10 d_Mo_command_87 (by decide) wf_Mo_62 rfl (hF 30 0 rfl (by decide)) rfl (hL (30, 0) 11 (41, 0) rfl rfl (by decide)) (mz_aload_n d_Mo_command_90 rfl (mz_getI (k := 29) cl_10 d_Mo_command_91 (by decide) wf_Mo_137 rfl (hF 30 0 rfl (by decide)) rfl (match (h.2 hc36) with | ⟨j32, h33, h34, h35⟩ => mz_iald j32 d_Mo_command_94 (hF 41 0 rfl (by decide)) rfl h33 h34 (mz_istore_n d_Mo_command_95 (by decide) (mz_goto 102 d_Mo_command_96 rfl (MzS.loc [(0, .ref (mz_ad B (30, 0))), (1, .int (mz_i M (41, 0) j32)), (2, .int ys0)] ⟨rfl, rfl, rfl, trivial⟩ (tm_Mo_command_102 hF  hH4 (mz_i M (41, 0) j32) ys0 M hL h35)))))))))))))
theorem tm_Mo_command_80 {G : MzG} {B : MzB} {d : Nat} {K : Int32 → MzM → Prop} (hF : mzLive true B)   {H4 : Int32 → Int32 → MzM → Prop} (hH4 : ∀ (y1 : Int32) (y2 : Int32) (M : MzM), mzLnk true M → H4 y1 y2 M → MzS G B (d + 1) mm_Mo_command M (0, 0) (mzK1 true B K) 4 [(0, .ref (mz_ad B (30, 0))), (1, .int y1), (2, .int y2)] []) (y1 : Int32) (M : MzM) (hL : mzLnk true M) (h : wp_Mo_command_80  H4 K y1 M) : MzS G B (d + 1) mm_Mo_command M (0, 0) (mzK1 true B K) 80 [(0, .ref (mz_ad B (30, 0))), (1, .int y1)] [] := by
  unfold wp_Mo_command_80 at h
  exact (mz_iconst (-1 : Int32) d_Mo_command_80 (by decide) (MzS.loc [(0, .ref (mz_ad B (30, 0))), (1, .int y1)] ⟨rfl, rfl, trivial⟩ (tm_Mo_command_81 hF  hH4 y1 (-1 : Int32) M hL h)))
theorem tm_Mo_command_53 {G : MzG} {B : MzB} {d : Nat} {K : Int32 → MzM → Prop} (hF : mzLive true B)   {H4 : Int32 → Int32 → MzM → Prop} (hH4 : ∀ (y1 : Int32) (y2 : Int32) (M : MzM), mzLnk true M → H4 y1 y2 M → MzS G B (d + 1) mm_Mo_command M (0, 0) (mzK1 true B K) 4 [(0, .ref (mz_ad B (30, 0))), (1, .int y1), (2, .int y2)] []) (y1 : Int32) (y2 : Int32) (ys0 : Int32) (M : MzM) (hL : mzLnk true M) (h : wp_Mo_command_53  H4 K y1 y2 ys0 M) : MzS G B (d + 1) mm_Mo_command M (0, 0) (mzK1 true B K) 53 [(0, .ref (mz_ad B (30, 0))), (1, .int y1), (2, .int y2)] [.int ys0] := by
  unfold wp_Mo_command_53 at h
  exact (mz_istore_n d_Mo_command_53 (by decide) (mz_iload_n d_Mo_command_54 rfl (mz_iconst (4 : Int32) d_Mo_command_55 (by decide) (mz_icmp_ge 80 d_Mo_command_56 rfl (fun hc24 => (MzS.loc [(0, .ref (mz_ad B (30, 0))), (1, .int y1)] ⟨rfl, rfl, trivial⟩ (tm_Mo_command_80 hF  hH4 y1 M hL (h.1 hc24)))) (fun hc24 => (mz_iload_n d_Mo_command_59 rfl (mz_if_le 80 d_Mo_command_60 rfl (fun hc23 => (MzS.loc [(0, .ref (mz_ad B (30, 0))), (1, .int y1)] ⟨rfl, rfl, trivial⟩ (tm_Mo_command_80 hF  hH4 y1 M hL ((h.2 hc24).1 hc23)))) (fun hc23 => (mz_iload_n d_Mo_command_63 rfl (mz_sipush (128 : Int32) d_Mo_command_64 (by decide) (mz_icmp_ge 80 d_Mo_command_67 rfl (fun hc22 => (MzS.loc [(0, .ref (mz_ad B (30, 0))), (1, .int y1)] ⟨rfl, rfl, trivial⟩ (tm_Mo_command_80 hF  hH4 y1 M hL (((h.2 hc24).2 hc23).1 hc22)))) (fun hc22 => (mz_sipush (128 : Int32) d_Mo_command_70 (by decide) (mz_iload_n d_Mo_command_73 rfl (mz_imul d_Mo_command_74 (mz_iload_n d_Mo_command_75 rfl (mz_iadd d_Mo_command_76 (mz_goto 81 d_Mo_command_77 rfl (MzS.loc [(0, .ref (mz_ad B (30, 0))), (1, .int y1)] ⟨rfl, rfl, trivial⟩ (tm_Mo_command_81 hF  hH4 y1 (((128 : Int32) * y2) + ys0) M hL (((h.2 hc24).2 hc23).2 hc22)))))))))))))))))))))
theorem tm_Mo_command_52 {G : MzG} {B : MzB} {d : Nat} {K : Int32 → MzM → Prop} (hF : mzLive true B)   {H4 : Int32 → Int32 → MzM → Prop} (hH4 : ∀ (y1 : Int32) (y2 : Int32) (M : MzM), mzLnk true M → H4 y1 y2 M → MzS G B (d + 1) mm_Mo_command M (0, 0) (mzK1 true B K) 4 [(0, .ref (mz_ad B (30, 0))), (1, .int y1), (2, .int y2)] []) (y1 : Int32) (y2 : Int32) (y3 : Int32) (M : MzM) (hL : mzLnk true M) (h : wp_Mo_command_52  H4 K y1 y2 y3 M) : MzS G B (d + 1) mm_Mo_command M (0, 0) (mzK1 true B K) 52 [(0, .ref (mz_ad B (30, 0))), (1, .int y1), (2, .int y2), (3, .int y3)] [] := by
  unfold wp_Mo_command_52 at h
  exact (mz_iload_n d_Mo_command_52 rfl (MzS.loc [(0, .ref (mz_ad B (30, 0))), (1, .int y1), (2, .int y2)] ⟨rfl, rfl, rfl, trivial⟩ (tm_Mo_command_53 hF  hH4 y1 y2 y3 M hL h)))
theorem tm_Mo_command_142 {G : MzG} {B : MzB} {d : Nat} {K : Int32 → MzM → Prop} (hF : mzLive true B)   {H117 : Int32 → Int32 → Int32 → MzM → Prop} (hH117 : ∀ (y2 : Int32) (y3 : Int32) (y4 : Int32) (M : MzM), mzLnk true M → H117 y2 y3 y4 M → MzS G B (d + 1) mm_Mo_command M (0, 0) (mzK1 true B K) 117 [(0, .ref (mz_ad B (30, 0))), (2, .int y2), (3, .int y3), (4, .int y4)] []) (y2 : Int32) (y3 : Int32) (y4 : Int32) (M : MzM) (hL : mzLnk true M) (h : wp_Mo_command_142  H117 K y2 y3 y4 M) : MzS G B (d + 1) mm_Mo_command M (0, 0) (mzK1 true B K) 142 [(0, .ref (mz_ad B (30, 0))), (2, .int y2), (3, .int y3), (4, .int y4)] [] := by
  unfold wp_Mo_command_142 at h
  exact (mz_iinc (y4 + (1 : Int32)) d_Mo_command_142 rfl (by decide) rfl (mz_goto 117 d_Mo_command_145 rfl (MzS.loc [(0, .ref (mz_ad B (30, 0))), (2, .int y2), (3, .int y3), (4, .int (y4 + (1 : Int32)))] ⟨rfl, rfl, rfl, rfl, trivial⟩ (hH117 y2 y3 (y4 + (1 : Int32)) M hL h))))
theorem tm_Mo_command_117 {G : MzG} {B : MzB} {d : Nat} {K : Int32 → MzM → Prop} (hF : mzLive true B)     : ∀ (r0 : Nat) (y2 : Int32) (y3 : Int32) (y4 : Int32) (M : MzM), mzLnk true M → wp_Mo_command_117   K r0 y2 y3 y4 M → MzS G B (d + 1) mm_Mo_command M (0, 0) (mzK1 true B K) 117 [(0, .ref (mz_ad B (30, 0))), (2, .int y2), (3, .int y3), (4, .int y4)] [] := by
  intro r0
  induction r0 with
  | zero => intro y2 y3 y4 M hL h; exact False.elim h
  | succ r0 hH117 =>
    intro y2 y3 y4 M hL h
    unfold wp_Mo_command_117 at h
    exact (mz_iload d_Mo_command_117 rfl (mz_bipush (21 : Int32) d_Mo_command_119 (by decide) (mz_icmp_gt 148 d_Mo_command_121 rfl (fun hc31 => (mz_iload_n d_Mo_command_148 rfl (mz_iret .int d_Mo_command_149 rfl rfl ⟨rfl, hL, _, rfl, (h.1 hc31)⟩))) (fun hc31 => (mz_iload_n d_Mo_command_124 rfl (mz_if_le 142 d_Mo_command_125 rfl (fun hc30 => (MzS.loc [(0, .ref (mz_ad B (30, 0))), (2, .int y2), (3, .int y3), (4, .int y4)] ⟨rfl, rfl, rfl, rfl, trivial⟩ (tm_Mo_command_142 hF  hH117 y2 y3 y4 M hL ((h.2 hc31).1 hc30)))) (fun hc30 => (mz_aload_n d_Mo_command_128 rfl (mz_getR (k := 0) (a := (31, 0)) cl_10 d_Mo_command_129 (by decide) wf_Mo_28 rfl (hF 30 0 rfl (by decide)) rfl (hL (30, 0) 0 (31, 0) rfl rfl (by decide)) (mz_iload d_Mo_command_132 rfl (match ((h.2 hc31).2 hc30) with | ⟨j25, h26, h27, h28⟩ => mz_iald j25 d_Mo_command_134 (hF 31 0 rfl (by decide)) rfl h26 h27 (mz_iload_n d_Mo_command_135 rfl (mz_icmp_ne 142 d_Mo_command_136 rfl (fun hc29 => (MzS.loc [(0, .ref (mz_ad B (30, 0))), (2, .int y2), (3, .int y3), (4, .int y4)] ⟨rfl, rfl, rfl, rfl, trivial⟩ (tm_Mo_command_142 hF  hH117 y2 y3 y4 M hL (h28.1 hc29)))) (fun hc29 => (mz_iload d_Mo_command_139 rfl (mz_istore_n d_Mo_command_141 (by decide) (MzS.loc [(0, .ref (mz_ad B (30, 0))), (2, .int y2), (3, .int y4), (4, .int y4)] ⟨rfl, rfl, rfl, rfl, trivial⟩ (tm_Mo_command_142 hF  hH117 y2 y4 y4 M hL (h28.2 hc29)))))))))))))))))))
theorem tm_Mo_command_105 {G : MzG} {B : MzB} {d : Nat} {K : Int32 → MzM → Prop} (hF : mzLive true B)     (y1 : Int32) (y2 : Int32) (M : MzM) (hL : mzLnk true M) (h : wp_Mo_command_105   K y1 y2 M) : MzS G B (d + 1) mm_Mo_command M (0, 0) (mzK1 true B K) 105 [(0, .ref (mz_ad B (30, 0))), (1, .int y1), (2, .int y2)] [] := by
  unfold wp_Mo_command_105 at h
  exact (mz_aload_n d_Mo_command_105 rfl (mz_iload_n d_Mo_command_106 rfl (mz_iconst (1 : Int32) d_Mo_command_107 (by decide) (mz_iadd d_Mo_command_108 (mz_putI (k := 32) cl_10 d_Mo_command_109 (by decide) wf_Mo_192 rfl rfl rfl rfl (hF 30 0 rfl (by decide)) rfl (let M19 : MzM := mz_si M (30, 0) 32 (y1 + (1 : Int32)); (mz_iconst (0 : Int32) d_Mo_command_112 (by decide) (mz_istore_n d_Mo_command_113 (by decide) (mz_iconst (1 : Int32) d_Mo_command_114 (by decide) (mz_istore d_Mo_command_115 (by decide) (MzS.loc [(0, .ref (mz_ad B (30, 0))), (2, .int y2), (3, .int (0 : Int32)), (4, .int (1 : Int32))] ⟨rfl, rfl, rfl, rfl, trivial⟩ (match (h M19 rfl) with | ⟨r20, h21⟩ => tm_Mo_command_117 hF   r20 y2 (0 : Int32) (1 : Int32) M19 hL h21))))))))))))
theorem tm_Mo_command_4 {G : MzG} {B : MzB} {d : Nat} {K : Int32 → MzM → Prop} (hF : mzLive true B)     : ∀ (r0 : Nat) (y1 : Int32) (y2 : Int32) (M : MzM), mzLnk true M → wp_Mo_command_4   K r0 y1 y2 M → MzS G B (d + 1) mm_Mo_command M (0, 0) (mzK1 true B K) 4 [(0, .ref (mz_ad B (30, 0))), (1, .int y1), (2, .int y2)] [] := by
  intro r0
  induction r0 with
  | zero => intro y1 y2 M hL h; exact False.elim h
  | succ r0 hH4 =>
    intro y1 y2 M hL h
    unfold wp_Mo_command_4 at h
    exact (mz_iload_n d_Mo_command_4 rfl (mz_aload_n d_Mo_command_5 rfl (mz_getR (k := 11) (a := (41, 0)) cl_10 d_Mo_command_6 (by decide) wf_Mo_62 rfl (hF 30 0 rfl (by decide)) rfl (hL (30, 0) 11 (41, 0) rfl rfl (by decide)) (mz_aload_n d_Mo_command_9 rfl (mz_getI (k := 29) cl_10 d_Mo_command_10 (by decide) wf_Mo_137 rfl (hF 30 0 rfl (by decide)) rfl (match h with | ⟨j3, h4, h5, h6⟩ => mz_iald j3 d_Mo_command_13 (hF 41 0 rfl (by decide)) rfl h4 h5 (mz_icmp_ge 105 d_Mo_command_14 rfl (fun hc18 => (MzS.loc [(0, .ref (mz_ad B (30, 0))), (1, .int y1), (2, .int y2)] ⟨rfl, rfl, rfl, trivial⟩ (tm_Mo_command_105 hF   y1 y2 M hL (h6.1 hc18)))) (fun hc18 => (mz_aload_n d_Mo_command_17 rfl (mz_iload_n d_Mo_command_18 rfl (mz_callV (As := [.int y1]) (st := []) (hF 30 0 rfl (by decide)) rfl (mzClOf cl_10) 0 0 d_Mo_command_19 cs_Mo_ch wl_Mo_189 wi_Mo_ch wse_Mo_ch (Nat.le_of_ble_eq_true rfl) (Nat.zero_le _) (Nat.zero_le _) (MzC.mono (tm_Mo_ch (d := d) hF  hL (h6.2 hc18)) (fun r9 B9 M7 hq9 => by obtain ⟨rfl, hL8, v10, rfl, hq9⟩ := hq9; exact ⟨_, rfl, (mz_bipush (32 : Int32) d_Mo_command_22 (by decide) (mz_icmp_eq 105 d_Mo_command_24 rfl (fun hc17 => (MzS.loc [(0, .ref (mz_ad B (30, 0))), (1, .int y1), (2, .int y2)] ⟨rfl, rfl, rfl, trivial⟩ (tm_Mo_command_105 hF   y1 y2 M7 hL8 (hq9.1 hc17)))) (fun hc17 => (mz_aload_n d_Mo_command_27 rfl (mz_iload_n d_Mo_command_28 rfl (mz_callV (As := [.int y1]) (st := []) (hF 30 0 rfl (by decide)) rfl (mzClOf cl_10) 0 0 d_Mo_command_29 cs_Mo_ch wl_Mo_189 wi_Mo_ch wse_Mo_ch (Nat.le_of_ble_eq_true rfl) (Nat.zero_le _) (Nat.zero_le _) (MzC.mono (tm_Mo_ch (d := d) hF  hL8 (hq9.2 hc17)) (fun r9 B9 M11 hq13 => by obtain ⟨rfl, hL12, v14, rfl, hq13⟩ := hq13; exact ⟨_, rfl, (mz_istore_n d_Mo_command_32 (by decide) (mz_iload_n d_Mo_command_33 rfl (mz_bipush (97 : Int32) d_Mo_command_34 (by decide) (mz_icmp_lt 52 d_Mo_command_36 rfl (fun hc16 => (MzS.loc [(0, .ref (mz_ad B (30, 0))), (1, .int y1), (2, .int y2), (3, .int v14)] ⟨rfl, rfl, rfl, rfl, trivial⟩ (tm_Mo_command_52 hF  hH4 y1 y2 v14 M11 hL12 (hq13.1 hc16)))) (fun hc16 => (mz_iload_n d_Mo_command_39 rfl (mz_bipush (122 : Int32) d_Mo_command_40 (by decide) (mz_icmp_gt 52 d_Mo_command_42 rfl (fun hc15 => (MzS.loc [(0, .ref (mz_ad B (30, 0))), (1, .int y1), (2, .int y2), (3, .int v14)] ⟨rfl, rfl, rfl, rfl, trivial⟩ (tm_Mo_command_52 hF  hH4 y1 y2 v14 M11 hL12 ((hq13.2 hc16).1 hc15)))) (fun hc15 => (mz_iload_n d_Mo_command_45 rfl (mz_bipush (32 : Int32) d_Mo_command_46 (by decide) (mz_isub d_Mo_command_48 (mz_goto 53 d_Mo_command_49 rfl (MzS.loc [(0, .ref (mz_ad B (30, 0))), (1, .int y1), (2, .int y2)] ⟨rfl, rfl, rfl, trivial⟩ (tm_Mo_command_53 hF  hH4 y1 y2 (v14 - (32 : Int32)) M11 hL12 ((hq13.2 hc16).2 hc15))))))))))))))))⟩))))))))⟩)))))))))))))
theorem tm_Mo_command {G : MzG} {B : MzB} {d : Nat} {K : Int32 → MzM → Prop} (hF : mzLive true B)    {M : MzM} (hL : mzLnk true M) (h : wp_Mo_command   M K) : MzC G B (d + 1) mm_Mo_command [.ref (mz_ad B (30, 0))] M (0, 0) (mzK1 true B K) := by
  unfold wp_Mo_command at h
  exact MzC.of rfl (Nat.le_of_ble_eq_true rfl) (show MzS G B (d + 1) mm_Mo_command M (0, 0) (mzK1 true B K) 0 [(0, .ref (mz_ad B (30, 0)))] [] from (mz_iconst (0 : Int32) d_Mo_command_0 (by decide) (mz_istore_n d_Mo_command_1 (by decide) (mz_iconst (0 : Int32) d_Mo_command_2 (by decide) (mz_istore_n d_Mo_command_3 (by decide) (MzS.loc [(0, .ref (mz_ad B (30, 0))), (1, .int (0 : Int32)), (2, .int (0 : Int32))] ⟨rfl, rfl, rfl, trivial⟩ (match h with | ⟨r1, h2⟩ => tm_Mo_command_4 hF   r1 (0 : Int32) (0 : Int32) M hL h2)))))))
def mm_Mo_hasArgument : MzT := (⟨"ParcelLineModel", "hasArgument", "()Z"⟩, prog_14_method_25_code, 1, (Option.some Jvm.ClassFile.FieldType.boolean))
theorem cs_Mo_hasArgument {mm : MzT} : mzCall mm mm_Mo_hasArgument 0 := ⟨wn_Mo, wco_Mo_hasArgument, by decide +kernel, by decide⟩
theorem d_Mo_hasArgument_0 : decode mm_Mo_hasArgument.2.1 0 = .ok (.aload_n 0, 1) := by decide +kernel
theorem d_Mo_hasArgument_1 : decode mm_Mo_hasArgument.2.1 1 = .ok (.getfield 192, 3) := by decide +kernel
theorem d_Mo_hasArgument_4 : decode mm_Mo_hasArgument.2.1 4 = .ok (.aload_n 0, 1) := by decide +kernel
theorem d_Mo_hasArgument_5 : decode mm_Mo_hasArgument.2.1 5 = .ok (.getfield 62, 3) := by decide +kernel
theorem d_Mo_hasArgument_8 : decode mm_Mo_hasArgument.2.1 8 = .ok (.aload_n 0, 1) := by decide +kernel
theorem d_Mo_hasArgument_9 : decode mm_Mo_hasArgument.2.1 9 = .ok (.getfield 137, 3) := by decide +kernel
theorem d_Mo_hasArgument_12 : decode mm_Mo_hasArgument.2.1 12 = .ok (.iaload, 1) := by decide +kernel
theorem d_Mo_hasArgument_13 : decode mm_Mo_hasArgument.2.1 13 = .ok (.if_icmp .gt 7, 3) := by decide +kernel
theorem d_Mo_hasArgument_16 : decode mm_Mo_hasArgument.2.1 16 = .ok (.iconst 1, 1) := by decide +kernel
theorem d_Mo_hasArgument_17 : decode mm_Mo_hasArgument.2.1 17 = .ok (.goto 4, 3) := by decide +kernel
theorem d_Mo_hasArgument_20 : decode mm_Mo_hasArgument.2.1 20 = .ok (.iconst 0, 1) := by decide +kernel
theorem d_Mo_hasArgument_21 : decode mm_Mo_hasArgument.2.1 21 = .ok (.ireturn, 1) := by decide +kernel
def wp_Mo_hasArgument   (M : MzM) (K : Int32 → MzM → Prop) : Prop := (∃ j1 : Nat, (mz_i M (30, 0) 29).toInt = (j1 : Int) ∧ j1 < 2 ∧ (((mz_i M (41, 0) j1) < (mz_i M (30, 0) 32) → K (0 : Int32) M) ∧ (¬ (mz_i M (41, 0) j1) < (mz_i M (30, 0) 32) → K (1 : Int32) M)))
theorem tm_Mo_hasArgument {G : MzG} {B : MzB} {d : Nat} {K : Int32 → MzM → Prop} (hF : mzLive true B)    {M : MzM} (hL : mzLnk true M) (h : wp_Mo_hasArgument   M K) : MzC G B d mm_Mo_hasArgument [.ref (mz_ad B (30, 0))] M (0, 0) (mzK1 true B K) := by
  unfold wp_Mo_hasArgument at h
  exact MzC.of rfl (Nat.le_of_ble_eq_true rfl) (show MzS G B d mm_Mo_hasArgument M (0, 0) (mzK1 true B K) 0 [(0, .ref (mz_ad B (30, 0)))] [] from (mz_aload_n d_Mo_hasArgument_0 rfl (mz_getI (k := 32) cl_10 d_Mo_hasArgument_1 (by decide) wf_Mo_192 rfl (hF 30 0 rfl (by decide)) rfl (mz_aload_n d_Mo_hasArgument_4 rfl (mz_getR (k := 11) (a := (41, 0)) cl_10 d_Mo_hasArgument_5 (by decide) wf_Mo_62 rfl (hF 30 0 rfl (by decide)) rfl (hL (30, 0) 11 (41, 0) rfl rfl (by decide)) (mz_aload_n d_Mo_hasArgument_8 rfl (mz_getI (k := 29) cl_10 d_Mo_hasArgument_9 (by decide) wf_Mo_137 rfl (hF 30 0 rfl (by decide)) rfl (match h with | ⟨j1, h2, h3, h4⟩ => mz_iald j1 d_Mo_hasArgument_12 (hF 41 0 rfl (by decide)) rfl h2 h3 (mz_icmp_gt 20 d_Mo_hasArgument_13 rfl (fun hc5 => (mz_iconst (0 : Int32) d_Mo_hasArgument_20 (by decide) (mz_iret .boolean d_Mo_hasArgument_21 rfl rfl ⟨rfl, hL, _, rfl, (h4.1 hc5)⟩))) (fun hc5 => (mz_iconst (1 : Int32) d_Mo_hasArgument_16 (by decide) (mz_goto 21 d_Mo_hasArgument_17 rfl (mz_iret .boolean d_Mo_hasArgument_21 rfl rfl ⟨rfl, hL, _, rfl, (h4.2 hc5)⟩)))))))))))))
def mm_Mo_number : MzT := (⟨"ParcelLineModel", "number", "()I"⟩, prog_14_method_29_code, 4, (Option.some Jvm.ClassFile.FieldType.int))
theorem cs_Mo_number {mm : MzT} : mzCall mm mm_Mo_number 0 := ⟨wn_Mo, wco_Mo_number, by decide +kernel, by decide⟩
theorem d_Mo_number_0 : decode mm_Mo_number.2.1 0 = .ok (.aload_n 0, 1) := by decide +kernel
theorem d_Mo_number_1 : decode mm_Mo_number.2.1 1 = .ok (.getfield 62, 3) := by decide +kernel
theorem d_Mo_number_4 : decode mm_Mo_number.2.1 4 = .ok (.aload_n 0, 1) := by decide +kernel
theorem d_Mo_number_5 : decode mm_Mo_number.2.1 5 = .ok (.getfield 137, 3) := by decide +kernel
theorem d_Mo_number_8 : decode mm_Mo_number.2.1 8 = .ok (.iaload, 1) := by decide +kernel
theorem d_Mo_number_9 : decode mm_Mo_number.2.1 9 = .ok (.aload_n 0, 1) := by decide +kernel
theorem d_Mo_number_10 : decode mm_Mo_number.2.1 10 = .ok (.getfield 192, 3) := by decide +kernel
theorem d_Mo_number_13 : decode mm_Mo_number.2.1 13 = .ok (.isub, 1) := by decide +kernel
theorem d_Mo_number_14 : decode mm_Mo_number.2.1 14 = .ok (.istore_n 1, 1) := by decide +kernel
theorem d_Mo_number_15 : decode mm_Mo_number.2.1 15 = .ok (.aload_n 0, 1) := by decide +kernel
theorem d_Mo_number_16 : decode mm_Mo_number.2.1 16 = .ok (.aload_n 0, 1) := by decide +kernel
theorem d_Mo_number_17 : decode mm_Mo_number.2.1 17 = .ok (.getfield 192, 3) := by decide +kernel
theorem d_Mo_number_20 : decode mm_Mo_number.2.1 20 = .ok (.invokevirtual 189, 3) := by decide +kernel
theorem d_Mo_number_23 : decode mm_Mo_number.2.1 23 = .ok (.bipush 48, 2) := by decide +kernel
theorem d_Mo_number_25 : decode mm_Mo_number.2.1 25 = .ok (.isub, 1) := by decide +kernel
theorem d_Mo_number_26 : decode mm_Mo_number.2.1 26 = .ok (.istore_n 2, 1) := by decide +kernel
theorem d_Mo_number_27 : decode mm_Mo_number.2.1 27 = .ok (.iload_n 1, 1) := by decide +kernel
theorem d_Mo_number_28 : decode mm_Mo_number.2.1 28 = .ok (.iconst 1, 1) := by decide +kernel
theorem d_Mo_number_29 : decode mm_Mo_number.2.1 29 = .ok (.if_icmp .lt 18, 3) := by decide +kernel
theorem d_Mo_number_32 : decode mm_Mo_number.2.1 32 = .ok (.iload_n 1, 1) := by decide +kernel
theorem d_Mo_number_33 : decode mm_Mo_number.2.1 33 = .ok (.iconst 2, 1) := by decide +kernel
theorem d_Mo_number_34 : decode mm_Mo_number.2.1 34 = .ok (.if_icmp .gt 13, 3) := by decide +kernel
theorem d_Mo_number_37 : decode mm_Mo_number.2.1 37 = .ok (.iload_n 2, 1) := by decide +kernel
theorem d_Mo_number_38 : decode mm_Mo_number.2.1 38 = .ok (.ifCond .lt 9, 3) := by decide +kernel
theorem d_Mo_number_41 : decode mm_Mo_number.2.1 41 = .ok (.iload_n 2, 1) := by decide +kernel
theorem d_Mo_number_42 : decode mm_Mo_number.2.1 42 = .ok (.bipush 9, 2) := by decide +kernel
theorem d_Mo_number_44 : decode mm_Mo_number.2.1 44 = .ok (.if_icmp .le 5, 3) := by decide +kernel
theorem d_Mo_number_47 : decode mm_Mo_number.2.1 47 = .ok (.iconst (-1), 1) := by decide +kernel
theorem d_Mo_number_48 : decode mm_Mo_number.2.1 48 = .ok (.ireturn, 1) := by decide +kernel
theorem d_Mo_number_49 : decode mm_Mo_number.2.1 49 = .ok (.iload_n 1, 1) := by decide +kernel
theorem d_Mo_number_50 : decode mm_Mo_number.2.1 50 = .ok (.iconst 1, 1) := by decide +kernel
theorem d_Mo_number_51 : decode mm_Mo_number.2.1 51 = .ok (.if_icmp .ne 5, 3) := by decide +kernel
theorem d_Mo_number_54 : decode mm_Mo_number.2.1 54 = .ok (.iload_n 2, 1) := by decide +kernel
theorem d_Mo_number_55 : decode mm_Mo_number.2.1 55 = .ok (.ireturn, 1) := by decide +kernel
theorem d_Mo_number_56 : decode mm_Mo_number.2.1 56 = .ok (.aload_n 0, 1) := by decide +kernel
theorem d_Mo_number_57 : decode mm_Mo_number.2.1 57 = .ok (.aload_n 0, 1) := by decide +kernel
theorem d_Mo_number_58 : decode mm_Mo_number.2.1 58 = .ok (.getfield 192, 3) := by decide +kernel
theorem d_Mo_number_61 : decode mm_Mo_number.2.1 61 = .ok (.iconst 1, 1) := by decide +kernel
theorem d_Mo_number_62 : decode mm_Mo_number.2.1 62 = .ok (.iadd, 1) := by decide +kernel
theorem d_Mo_number_63 : decode mm_Mo_number.2.1 63 = .ok (.invokevirtual 189, 3) := by decide +kernel
theorem d_Mo_number_66 : decode mm_Mo_number.2.1 66 = .ok (.bipush 48, 2) := by decide +kernel
theorem d_Mo_number_68 : decode mm_Mo_number.2.1 68 = .ok (.isub, 1) := by decide +kernel
theorem d_Mo_number_69 : decode mm_Mo_number.2.1 69 = .ok (.istore_n 3, 1) := by decide +kernel
theorem d_Mo_number_70 : decode mm_Mo_number.2.1 70 = .ok (.iload_n 3, 1) := by decide +kernel
theorem d_Mo_number_71 : decode mm_Mo_number.2.1 71 = .ok (.ifCond .lt 20, 3) := by decide +kernel
theorem d_Mo_number_74 : decode mm_Mo_number.2.1 74 = .ok (.iload_n 3, 1) := by decide +kernel
theorem d_Mo_number_75 : decode mm_Mo_number.2.1 75 = .ok (.bipush 9, 2) := by decide +kernel
theorem d_Mo_number_77 : decode mm_Mo_number.2.1 77 = .ok (.if_icmp .gt 14, 3) := by decide +kernel
theorem d_Mo_number_80 : decode mm_Mo_number.2.1 80 = .ok (.bipush 10, 2) := by decide +kernel
theorem d_Mo_number_82 : decode mm_Mo_number.2.1 82 = .ok (.iload_n 2, 1) := by decide +kernel
theorem d_Mo_number_83 : decode mm_Mo_number.2.1 83 = .ok (.imul, 1) := by decide +kernel
theorem d_Mo_number_84 : decode mm_Mo_number.2.1 84 = .ok (.iload_n 3, 1) := by decide +kernel
theorem d_Mo_number_85 : decode mm_Mo_number.2.1 85 = .ok (.iadd, 1) := by decide +kernel
theorem d_Mo_number_86 : decode mm_Mo_number.2.1 86 = .ok (.bipush 24, 2) := by decide +kernel
theorem d_Mo_number_88 : decode mm_Mo_number.2.1 88 = .ok (.if_icmp .le 7, 3) := by decide +kernel
theorem d_Mo_number_91 : decode mm_Mo_number.2.1 91 = .ok (.iconst (-1), 1) := by decide +kernel
theorem d_Mo_number_92 : decode mm_Mo_number.2.1 92 = .ok (.goto 9, 3) := by decide +kernel
theorem d_Mo_number_95 : decode mm_Mo_number.2.1 95 = .ok (.bipush 10, 2) := by decide +kernel
theorem d_Mo_number_97 : decode mm_Mo_number.2.1 97 = .ok (.iload_n 2, 1) := by decide +kernel
theorem d_Mo_number_98 : decode mm_Mo_number.2.1 98 = .ok (.imul, 1) := by decide +kernel
theorem d_Mo_number_99 : decode mm_Mo_number.2.1 99 = .ok (.iload_n 3, 1) := by decide +kernel
theorem d_Mo_number_100 : decode mm_Mo_number.2.1 100 = .ok (.iadd, 1) := by decide +kernel
theorem d_Mo_number_101 : decode mm_Mo_number.2.1 101 = .ok (.ireturn, 1) := by decide +kernel
def wp_Mo_number   (M : MzM) (K : Int32 → MzM → Prop) : Prop := (∃ j1 : Nat, (mz_i M (30, 0) 29).toInt = (j1 : Int) ∧ j1 < 2 ∧ wp_Mo_ch  (mz_i M (30, 0) 32) M (fun v8 M5 => ((((mz_i M (41, 0) j1) - (mz_i M (30, 0) 32)) < (1 : Int32) → K (-1 : Int32) M5) ∧ (¬ ((mz_i M (41, 0) j1) - (mz_i M (30, 0) 32)) < (1 : Int32) → (((2 : Int32) < ((mz_i M (41, 0) j1) - (mz_i M (30, 0) 32)) → K (-1 : Int32) M5) ∧ (¬ (2 : Int32) < ((mz_i M (41, 0) j1) - (mz_i M (30, 0) 32)) → (((v8 - (48 : Int32)) < 0 → K (-1 : Int32) M5) ∧ (¬ (v8 - (48 : Int32)) < 0 → (((v8 - (48 : Int32)) ≤ (9 : Int32) → ((¬ ((mz_i M (41, 0) j1) - (mz_i M (30, 0) 32)) = (1 : Int32) → wp_Mo_ch  ((mz_i M5 (30, 0) 32) + (1 : Int32)) M5 (fun v12 M9 => (((v12 - (48 : Int32)) < 0 → K (-1 : Int32) M9) ∧ (¬ (v12 - (48 : Int32)) < 0 → (((9 : Int32) < (v12 - (48 : Int32)) → K (-1 : Int32) M9) ∧ (¬ (9 : Int32) < (v12 - (48 : Int32)) → (((((10 : Int32) * (v8 - (48 : Int32))) + (v12 - (48 : Int32))) ≤ (24 : Int32) → K (((10 : Int32) * (v8 - (48 : Int32))) + (v12 - (48 : Int32))) M9) ∧ (¬ (((10 : Int32) * (v8 - (48 : Int32))) + (v12 - (48 : Int32))) ≤ (24 : Int32) → K (-1 : Int32) M9)))))))) ∧ (((mz_i M (41, 0) j1) - (mz_i M (30, 0) 32)) = (1 : Int32) → K (v8 - (48 : Int32)) M5))) ∧ (¬ (v8 - (48 : Int32)) ≤ (9 : Int32) → K (-1 : Int32) M5))))))))))
theorem tm_Mo_number {G : MzG} {B : MzB} {d : Nat} {K : Int32 → MzM → Prop} (hF : mzLive true B)    {M : MzM} (hL : mzLnk true M) (h : wp_Mo_number   M K) : MzC G B (d + 1) mm_Mo_number [.ref (mz_ad B (30, 0))] M (0, 0) (mzK1 true B K) := by
  unfold wp_Mo_number at h
  exact MzC.of rfl (Nat.le_of_ble_eq_true rfl) (show MzS G B (d + 1) mm_Mo_number M (0, 0) (mzK1 true B K) 0 [(0, .ref (mz_ad B (30, 0)))] [] from (mz_aload_n d_Mo_number_0 rfl (mz_getR (k := 11) (a := (41, 0)) cl_10 d_Mo_number_1 (by decide) wf_Mo_62 rfl (hF 30 0 rfl (by decide)) rfl (hL (30, 0) 11 (41, 0) rfl rfl (by decide)) (mz_aload_n d_Mo_number_4 rfl (mz_getI (k := 29) cl_10 d_Mo_number_5 (by decide) wf_Mo_137 rfl (hF 30 0 rfl (by decide)) rfl (match h with | ⟨j1, h2, h3, h4⟩ => mz_iald j1 d_Mo_number_8 (hF 41 0 rfl (by decide)) rfl h2 h3 (mz_aload_n d_Mo_number_9 rfl (mz_getI (k := 32) cl_10 d_Mo_number_10 (by decide) wf_Mo_192 rfl (hF 30 0 rfl (by decide)) rfl (mz_isub d_Mo_number_13 (mz_istore_n d_Mo_number_14 (by decide) (mz_aload_n d_Mo_number_15 rfl (mz_aload_n d_Mo_number_16 rfl (mz_getI (k := 32) cl_10 d_Mo_number_17 (by decide) wf_Mo_192 rfl (hF 30 0 rfl (by decide)) rfl (mz_callV (As := [.int (mz_i M (30, 0) 32)]) (st := []) (hF 30 0 rfl (by decide)) rfl (mzClOf cl_10) 0 0 d_Mo_number_20 cs_Mo_ch wl_Mo_189 wi_Mo_ch wse_Mo_ch (Nat.le_of_ble_eq_true rfl) (Nat.zero_le _) (Nat.zero_le _) (MzC.mono (tm_Mo_ch (d := d) hF  hL h4) (fun r9 B9 M5 hq7 => by obtain ⟨rfl, hL6, v8, rfl, hq7⟩ := hq7; exact ⟨_, rfl, (mz_bipush (48 : Int32) d_Mo_number_23 (by decide) (mz_isub d_Mo_number_25 (mz_istore_n d_Mo_number_26 (by decide) (mz_iload_n d_Mo_number_27 rfl (mz_iconst (1 : Int32) d_Mo_number_28 (by decide) (mz_icmp_lt 47 d_Mo_number_29 rfl (fun hc20 => (mz_iconst (-1 : Int32) d_Mo_number_47 (by decide) (mz_iret .int d_Mo_number_48 rfl rfl ⟨rfl, hL6, _, rfl, (hq7.1 hc20)⟩))) (fun hc20 => (mz_iload_n d_Mo_number_32 rfl (mz_iconst (2 : Int32) d_Mo_number_33 (by decide) (mz_icmp_gt 47 d_Mo_number_34 rfl (fun hc19 => (mz_iconst (-1 : Int32) d_Mo_number_47 (by decide) (mz_iret .int d_Mo_number_48 rfl rfl ⟨rfl, hL6, _, rfl, ((hq7.2 hc20).1 hc19)⟩))) (fun hc19 => (mz_iload_n d_Mo_number_37 rfl (mz_if_lt 47 d_Mo_number_38 rfl (fun hc18 => (mz_iconst (-1 : Int32) d_Mo_number_47 (by decide) (mz_iret .int d_Mo_number_48 rfl rfl ⟨rfl, hL6, _, rfl, (((hq7.2 hc20).2 hc19).1 hc18)⟩))) (fun hc18 => (mz_iload_n d_Mo_number_41 rfl (mz_bipush (9 : Int32) d_Mo_number_42 (by decide) (mz_icmp_le 49 d_Mo_number_44 rfl (fun hc17 => (mz_iload_n d_Mo_number_49 rfl (mz_iconst (1 : Int32) d_Mo_number_50 (by decide) (mz_icmp_ne 56 d_Mo_number_51 rfl (fun hc16 => (mz_aload_n d_Mo_number_56 rfl (mz_aload_n d_Mo_number_57 rfl (mz_getI (k := 32) cl_10 d_Mo_number_58 (by decide) wf_Mo_192 rfl (hF 30 0 rfl (by decide)) rfl (mz_iconst (1 : Int32) d_Mo_number_61 (by decide) (mz_iadd d_Mo_number_62 (mz_callV (As := [.int ((mz_i M5 (30, 0) 32) + (1 : Int32))]) (st := []) (hF 30 0 rfl (by decide)) rfl (mzClOf cl_10) 0 0 d_Mo_number_63 cs_Mo_ch wl_Mo_189 wi_Mo_ch wse_Mo_ch (Nat.le_of_ble_eq_true rfl) (Nat.zero_le _) (Nat.zero_le _) (MzC.mono (tm_Mo_ch (d := d) hF  hL6 (((((hq7.2 hc20).2 hc19).2 hc18).1 hc17).1 hc16)) (fun r9 B9 M9 hq11 => by obtain ⟨rfl, hL10, v12, rfl, hq11⟩ := hq11; exact ⟨_, rfl, (mz_bipush (48 : Int32) d_Mo_number_66 (by decide) (mz_isub d_Mo_number_68 (mz_istore_n d_Mo_number_69 (by decide) (mz_iload_n d_Mo_number_70 rfl (mz_if_lt 91 d_Mo_number_71 rfl (fun hc15 => (mz_iconst (-1 : Int32) d_Mo_number_91 (by decide) (mz_goto 101 d_Mo_number_92 rfl (mz_iret .int d_Mo_number_101 rfl rfl ⟨rfl, hL10, _, rfl, (hq11.1 hc15)⟩)))) (fun hc15 => (mz_iload_n d_Mo_number_74 rfl (mz_bipush (9 : Int32) d_Mo_number_75 (by decide) (mz_icmp_gt 91 d_Mo_number_77 rfl (fun hc14 => (mz_iconst (-1 : Int32) d_Mo_number_91 (by decide) (mz_goto 101 d_Mo_number_92 rfl (mz_iret .int d_Mo_number_101 rfl rfl ⟨rfl, hL10, _, rfl, ((hq11.2 hc15).1 hc14)⟩)))) (fun hc14 => (mz_bipush (10 : Int32) d_Mo_number_80 (by decide) (mz_iload_n d_Mo_number_82 rfl (mz_imul d_Mo_number_83 (mz_iload_n d_Mo_number_84 rfl (mz_iadd d_Mo_number_85 (mz_bipush (24 : Int32) d_Mo_number_86 (by decide) (mz_icmp_le 95 d_Mo_number_88 rfl (fun hc13 => (mz_bipush (10 : Int32) d_Mo_number_95 (by decide) (mz_iload_n d_Mo_number_97 rfl (mz_imul d_Mo_number_98 (mz_iload_n d_Mo_number_99 rfl (mz_iadd d_Mo_number_100 (mz_iret .int d_Mo_number_101 rfl rfl ⟨rfl, hL10, _, rfl, (((hq11.2 hc15).2 hc14).1 hc13)⟩))))))) (fun hc13 => (mz_iconst (-1 : Int32) d_Mo_number_91 (by decide) (mz_goto 101 d_Mo_number_92 rfl (mz_iret .int d_Mo_number_101 rfl rfl ⟨rfl, hL10, _, rfl, (((hq11.2 hc15).2 hc14).2 hc13)⟩)))))))))))))))))))))⟩))))))))) (fun hc16 => (mz_iload_n d_Mo_number_54 rfl (mz_iret .int d_Mo_number_55 rfl rfl ⟨rfl, hL6, _, rfl, (((((hq7.2 hc20).2 hc19).2 hc18).1 hc17).2 hc16)⟩))))))) (fun hc17 => (mz_iconst (-1 : Int32) d_Mo_number_47 (by decide) (mz_iret .int d_Mo_number_48 rfl rfl ⟨rfl, hL6, _, rfl, ((((hq7.2 hc20).2 hc19).2 hc18).2 hc17)⟩))))))))))))))))))))⟩))))))))))))))))
def mm_Mo_isPathCommand : MzT := (⟨"ParcelLineModel", "isPathCommand", "(I)Z"⟩, prog_14_method_30_code, 2, (Option.some Jvm.ClassFile.FieldType.boolean))
theorem cs_Mo_isPathCommand {mm : MzT} : mzCall mm mm_Mo_isPathCommand 1 := ⟨wn_Mo, wco_Mo_isPathCommand, by decide +kernel, by decide⟩
theorem d_Mo_isPathCommand_0 : decode mm_Mo_isPathCommand.2.1 0 = .ok (.iload_n 1, 1) := by decide +kernel
theorem d_Mo_isPathCommand_1 : decode mm_Mo_isPathCommand.2.1 1 = .ok (.bipush 7, 2) := by decide +kernel
theorem d_Mo_isPathCommand_3 : decode mm_Mo_isPathCommand.2.1 3 = .ok (.if_icmp .eq 27, 3) := by decide +kernel
theorem d_Mo_isPathCommand_6 : decode mm_Mo_isPathCommand.2.1 6 = .ok (.iload_n 1, 1) := by decide +kernel
theorem d_Mo_isPathCommand_7 : decode mm_Mo_isPathCommand.2.1 7 = .ok (.bipush 9, 2) := by decide +kernel
theorem d_Mo_isPathCommand_9 : decode mm_Mo_isPathCommand.2.1 9 = .ok (.if_icmp .eq 21, 3) := by decide +kernel
theorem d_Mo_isPathCommand_12 : decode mm_Mo_isPathCommand.2.1 12 = .ok (.iload_n 1, 1) := by decide +kernel
theorem d_Mo_isPathCommand_13 : decode mm_Mo_isPathCommand.2.1 13 = .ok (.bipush 12, 2) := by decide +kernel
theorem d_Mo_isPathCommand_15 : decode mm_Mo_isPathCommand.2.1 15 = .ok (.if_icmp .lt 9, 3) := by decide +kernel
theorem d_Mo_isPathCommand_18 : decode mm_Mo_isPathCommand.2.1 18 = .ok (.iload_n 1, 1) := by decide +kernel
theorem d_Mo_isPathCommand_19 : decode mm_Mo_isPathCommand.2.1 19 = .ok (.bipush 14, 2) := by decide +kernel
theorem d_Mo_isPathCommand_21 : decode mm_Mo_isPathCommand.2.1 21 = .ok (.if_icmp .le 9, 3) := by decide +kernel
theorem d_Mo_isPathCommand_24 : decode mm_Mo_isPathCommand.2.1 24 = .ok (.iload_n 1, 1) := by decide +kernel
theorem d_Mo_isPathCommand_25 : decode mm_Mo_isPathCommand.2.1 25 = .ok (.bipush 17, 2) := by decide +kernel
theorem d_Mo_isPathCommand_27 : decode mm_Mo_isPathCommand.2.1 27 = .ok (.if_icmp .lt 7, 3) := by decide +kernel
theorem d_Mo_isPathCommand_30 : decode mm_Mo_isPathCommand.2.1 30 = .ok (.iconst 1, 1) := by decide +kernel
theorem d_Mo_isPathCommand_31 : decode mm_Mo_isPathCommand.2.1 31 = .ok (.goto 4, 3) := by decide +kernel
theorem d_Mo_isPathCommand_34 : decode mm_Mo_isPathCommand.2.1 34 = .ok (.iconst 0, 1) := by decide +kernel
theorem d_Mo_isPathCommand_35 : decode mm_Mo_isPathCommand.2.1 35 = .ok (.ireturn, 1) := by decide +kernel
def wp_Mo_isPathCommand  (a1 : Int32) (M : MzM) (K : Int32 → MzM → Prop) : Prop := ((a1 = (7 : Int32) → K (1 : Int32) M) ∧ (¬ a1 = (7 : Int32) → ((a1 = (9 : Int32) → K (1 : Int32) M) ∧ (¬ a1 = (9 : Int32) → ((a1 < (12 : Int32) → ((a1 < (17 : Int32) → K (0 : Int32) M) ∧ (¬ a1 < (17 : Int32) → K (1 : Int32) M))) ∧ (¬ a1 < (12 : Int32) → ((a1 ≤ (14 : Int32) → K (1 : Int32) M) ∧ (¬ a1 ≤ (14 : Int32) → ((a1 < (17 : Int32) → K (0 : Int32) M) ∧ (¬ a1 < (17 : Int32) → K (1 : Int32) M))))))))))
theorem tm_Mo_isPathCommand {G : MzG} {B : MzB} {d : Nat} {K : Int32 → MzM → Prop} (hF : mzLive true B)   {a1 : Int32} {M : MzM} (hL : mzLnk true M) (h : wp_Mo_isPathCommand  a1 M K) : MzC G B d mm_Mo_isPathCommand [.ref (mz_ad B (30, 0)), .int a1] M (0, 0) (mzK1 true B K) := by
  unfold wp_Mo_isPathCommand at h
  exact MzC.of rfl (Nat.le_of_ble_eq_true rfl) (show MzS G B d mm_Mo_isPathCommand M (0, 0) (mzK1 true B K) 0 [(0, .ref (mz_ad B (30, 0))), (1, .int a1)] [] from (mz_iload_n d_Mo_isPathCommand_0 rfl (mz_bipush (7 : Int32) d_Mo_isPathCommand_1 (by decide) (mz_icmp_eq 30 d_Mo_isPathCommand_3 rfl (fun hc6 => (mz_iconst (1 : Int32) d_Mo_isPathCommand_30 (by decide) (mz_goto 35 d_Mo_isPathCommand_31 rfl (mz_iret .boolean d_Mo_isPathCommand_35 rfl rfl ⟨rfl, hL, _, rfl, (h.1 hc6)⟩)))) (fun hc6 => (mz_iload_n d_Mo_isPathCommand_6 rfl (mz_bipush (9 : Int32) d_Mo_isPathCommand_7 (by decide) (mz_icmp_eq 30 d_Mo_isPathCommand_9 rfl (fun hc5 => (mz_iconst (1 : Int32) d_Mo_isPathCommand_30 (by decide) (mz_goto 35 d_Mo_isPathCommand_31 rfl (mz_iret .boolean d_Mo_isPathCommand_35 rfl rfl ⟨rfl, hL, _, rfl, ((h.2 hc6).1 hc5)⟩)))) (fun hc5 => (mz_iload_n d_Mo_isPathCommand_12 rfl (mz_bipush (12 : Int32) d_Mo_isPathCommand_13 (by decide) (mz_icmp_lt 24 d_Mo_isPathCommand_15 rfl (fun hc4 => (mz_iload_n d_Mo_isPathCommand_24 rfl (mz_bipush (17 : Int32) d_Mo_isPathCommand_25 (by decide) (mz_icmp_lt 34 d_Mo_isPathCommand_27 rfl (fun hc1 => (mz_iconst (0 : Int32) d_Mo_isPathCommand_34 (by decide) (mz_iret .boolean d_Mo_isPathCommand_35 rfl rfl ⟨rfl, hL, _, rfl, ((((h.2 hc6).2 hc5).1 hc4).1 hc1)⟩))) (fun hc1 => (mz_iconst (1 : Int32) d_Mo_isPathCommand_30 (by decide) (mz_goto 35 d_Mo_isPathCommand_31 rfl (mz_iret .boolean d_Mo_isPathCommand_35 rfl rfl ⟨rfl, hL, _, rfl, ((((h.2 hc6).2 hc5).1 hc4).2 hc1)⟩)))))))) (fun hc4 => (mz_iload_n d_Mo_isPathCommand_18 rfl (mz_bipush (14 : Int32) d_Mo_isPathCommand_19 (by decide) (mz_icmp_le 30 d_Mo_isPathCommand_21 rfl (fun hc3 => (mz_iconst (1 : Int32) d_Mo_isPathCommand_30 (by decide) (mz_goto 35 d_Mo_isPathCommand_31 rfl (mz_iret .boolean d_Mo_isPathCommand_35 rfl rfl ⟨rfl, hL, _, rfl, ((((h.2 hc6).2 hc5).2 hc4).1 hc3)⟩)))) (fun hc3 => (mz_iload_n d_Mo_isPathCommand_24 rfl (mz_bipush (17 : Int32) d_Mo_isPathCommand_25 (by decide) (mz_icmp_lt 34 d_Mo_isPathCommand_27 rfl (fun hc2 => (mz_iconst (0 : Int32) d_Mo_isPathCommand_34 (by decide) (mz_iret .boolean d_Mo_isPathCommand_35 rfl rfl ⟨rfl, hL, _, rfl, (((((h.2 hc6).2 hc5).2 hc4).2 hc3).1 hc2)⟩))) (fun hc2 => (mz_iconst (1 : Int32) d_Mo_isPathCommand_30 (by decide) (mz_goto 35 d_Mo_isPathCommand_31 rfl (mz_iret .boolean d_Mo_isPathCommand_35 rfl rfl ⟨rfl, hL, _, rfl, (((((h.2 hc6).2 hc5).2 hc4).2 hc3).2 hc2)⟩))))))))))))))))))))))))
def mm_Mo_isLetter : MzT := (⟨"ParcelLineModel", "isLetter", "(I)Z"⟩, prog_14_method_26_code, 1, (Option.some Jvm.ClassFile.FieldType.boolean))
theorem cs_Mo_isLetter {mm : MzT} : mzCall mm mm_Mo_isLetter 1 := ⟨wn_Mo, wco_Mo_isLetter, by decide +kernel, by decide⟩
theorem d_Mo_isLetter_0 : decode mm_Mo_isLetter.2.1 0 = .ok (.iload_n 0, 1) := by decide +kernel
theorem d_Mo_isLetter_1 : decode mm_Mo_isLetter.2.1 1 = .ok (.bipush 97, 2) := by decide +kernel
theorem d_Mo_isLetter_3 : decode mm_Mo_isLetter.2.1 3 = .ok (.if_icmp .lt 9, 3) := by decide +kernel
theorem d_Mo_isLetter_6 : decode mm_Mo_isLetter.2.1 6 = .ok (.iload_n 0, 1) := by decide +kernel
theorem d_Mo_isLetter_7 : decode mm_Mo_isLetter.2.1 7 = .ok (.bipush 122, 2) := by decide +kernel
theorem d_Mo_isLetter_9 : decode mm_Mo_isLetter.2.1 9 = .ok (.if_icmp .le 15, 3) := by decide +kernel
theorem d_Mo_isLetter_12 : decode mm_Mo_isLetter.2.1 12 = .ok (.iload_n 0, 1) := by decide +kernel
theorem d_Mo_isLetter_13 : decode mm_Mo_isLetter.2.1 13 = .ok (.bipush 48, 2) := by decide +kernel
theorem d_Mo_isLetter_15 : decode mm_Mo_isLetter.2.1 15 = .ok (.if_icmp .lt 13, 3) := by decide +kernel
theorem d_Mo_isLetter_18 : decode mm_Mo_isLetter.2.1 18 = .ok (.iload_n 0, 1) := by decide +kernel
theorem d_Mo_isLetter_19 : decode mm_Mo_isLetter.2.1 19 = .ok (.bipush 57, 2) := by decide +kernel
theorem d_Mo_isLetter_21 : decode mm_Mo_isLetter.2.1 21 = .ok (.if_icmp .gt 7, 3) := by decide +kernel
theorem d_Mo_isLetter_24 : decode mm_Mo_isLetter.2.1 24 = .ok (.iconst 1, 1) := by decide +kernel
theorem d_Mo_isLetter_25 : decode mm_Mo_isLetter.2.1 25 = .ok (.goto 4, 3) := by decide +kernel
theorem d_Mo_isLetter_28 : decode mm_Mo_isLetter.2.1 28 = .ok (.iconst 0, 1) := by decide +kernel
theorem d_Mo_isLetter_29 : decode mm_Mo_isLetter.2.1 29 = .ok (.ireturn, 1) := by decide +kernel
def wp_Mo_isLetter_12   (K : Int32 → MzM → Prop) (y0 : Int32) (M : MzM) : Prop := ((y0 < (48 : Int32) → K (0 : Int32) M) ∧ (¬ y0 < (48 : Int32) → (((57 : Int32) < y0 → K (0 : Int32) M) ∧ (¬ (57 : Int32) < y0 → K (1 : Int32) M))))
def wp_Mo_isLetter  (a0 : Int32) (M : MzM) (K : Int32 → MzM → Prop) : Prop := ((a0 < (97 : Int32) → wp_Mo_isLetter_12   K a0 M) ∧ (¬ a0 < (97 : Int32) → ((a0 ≤ (122 : Int32) → K (1 : Int32) M) ∧ (¬ a0 ≤ (122 : Int32) → wp_Mo_isLetter_12   K a0 M))))
theorem tm_Mo_isLetter_12 {G : MzG} {B : MzB} {d : Nat} {K : Int32 → MzM → Prop} (hF : mzLive true B)     (y0 : Int32) (M : MzM) (hL : mzLnk true M) (h : wp_Mo_isLetter_12   K y0 M) : MzS G B d mm_Mo_isLetter M (0, 0) (mzK1 true B K) 12 [(0, .int y0)] [] := by
  unfold wp_Mo_isLetter_12 at h
  exact (mz_iload_n d_Mo_isLetter_12 rfl (mz_bipush (48 : Int32) d_Mo_isLetter_13 (by decide) (mz_icmp_lt 28 d_Mo_isLetter_15 rfl (fun hc4 => (mz_iconst (0 : Int32) d_Mo_isLetter_28 (by decide) (mz_iret .boolean d_Mo_isLetter_29 rfl rfl ⟨rfl, hL, _, rfl, (h.1 hc4)⟩))) (fun hc4 => (mz_iload_n d_Mo_isLetter_18 rfl (mz_bipush (57 : Int32) d_Mo_isLetter_19 (by decide) (mz_icmp_gt 28 d_Mo_isLetter_21 rfl (fun hc3 => (mz_iconst (0 : Int32) d_Mo_isLetter_28 (by decide) (mz_iret .boolean d_Mo_isLetter_29 rfl rfl ⟨rfl, hL, _, rfl, ((h.2 hc4).1 hc3)⟩))) (fun hc3 => (mz_iconst (1 : Int32) d_Mo_isLetter_24 (by decide) (mz_goto 29 d_Mo_isLetter_25 rfl (mz_iret .boolean d_Mo_isLetter_29 rfl rfl ⟨rfl, hL, _, rfl, ((h.2 hc4).2 hc3)⟩)))))))))))
theorem tm_Mo_isLetter {G : MzG} {B : MzB} {d : Nat} {K : Int32 → MzM → Prop} (hF : mzLive true B)   {a0 : Int32} {M : MzM} (hL : mzLnk true M) (h : wp_Mo_isLetter  a0 M K) : MzC G B d mm_Mo_isLetter [.int a0] M (0, 0) (mzK1 true B K) := by
  unfold wp_Mo_isLetter at h
  exact MzC.of rfl (Nat.le_of_ble_eq_true rfl) (show MzS G B d mm_Mo_isLetter M (0, 0) (mzK1 true B K) 0 [(0, .int a0)] [] from (mz_iload_n d_Mo_isLetter_0 rfl (mz_bipush (97 : Int32) d_Mo_isLetter_1 (by decide) (mz_icmp_lt 12 d_Mo_isLetter_3 rfl (fun hc2 => (MzS.loc [(0, .int a0)] ⟨rfl, trivial⟩ (tm_Mo_isLetter_12 hF   a0 M hL (h.1 hc2)))) (fun hc2 => (mz_iload_n d_Mo_isLetter_6 rfl (mz_bipush (122 : Int32) d_Mo_isLetter_7 (by decide) (mz_icmp_le 24 d_Mo_isLetter_9 rfl (fun hc1 => (mz_iconst (1 : Int32) d_Mo_isLetter_24 (by decide) (mz_goto 29 d_Mo_isLetter_25 rfl (mz_iret .boolean d_Mo_isLetter_29 rfl rfl ⟨rfl, hL, _, rfl, ((h.2 hc2).1 hc1)⟩)))) (fun hc1 => (MzS.loc [(0, .int a0)] ⟨rfl, trivial⟩ (tm_Mo_isLetter_12 hF   a0 M hL ((h.2 hc2).2 hc1))))))))))))
def mm_Mo_stepEnd : MzT := (⟨"ParcelLineModel", "stepEnd", "(I)I"⟩, prog_14_method_27_code, 3, (Option.some Jvm.ClassFile.FieldType.int))
theorem cs_Mo_stepEnd {mm : MzT} : mzCall mm mm_Mo_stepEnd 1 := ⟨wn_Mo, wco_Mo_stepEnd, by decide +kernel, by decide⟩
theorem d_Mo_stepEnd_0 : decode mm_Mo_stepEnd.2.1 0 = .ok (.aload_n 0, 1) := by decide +kernel
theorem d_Mo_stepEnd_1 : decode mm_Mo_stepEnd.2.1 1 = .ok (.iload_n 1, 1) := by decide +kernel
theorem d_Mo_stepEnd_2 : decode mm_Mo_stepEnd.2.1 2 = .ok (.invokevirtual 189, 3) := by decide +kernel
theorem d_Mo_stepEnd_5 : decode mm_Mo_stepEnd.2.1 5 = .ok (.bipush 46, 2) := by decide +kernel
theorem d_Mo_stepEnd_7 : decode mm_Mo_stepEnd.2.1 7 = .ok (.if_icmp .ne 19, 3) := by decide +kernel
theorem d_Mo_stepEnd_10 : decode mm_Mo_stepEnd.2.1 10 = .ok (.aload_n 0, 1) := by decide +kernel
theorem d_Mo_stepEnd_11 : decode mm_Mo_stepEnd.2.1 11 = .ok (.iload_n 1, 1) := by decide +kernel
theorem d_Mo_stepEnd_12 : decode mm_Mo_stepEnd.2.1 12 = .ok (.iconst 1, 1) := by decide +kernel
theorem d_Mo_stepEnd_13 : decode mm_Mo_stepEnd.2.1 13 = .ok (.iadd, 1) := by decide +kernel
theorem d_Mo_stepEnd_14 : decode mm_Mo_stepEnd.2.1 14 = .ok (.invokevirtual 189, 3) := by decide +kernel
theorem d_Mo_stepEnd_17 : decode mm_Mo_stepEnd.2.1 17 = .ok (.bipush 46, 2) := by decide +kernel
theorem d_Mo_stepEnd_19 : decode mm_Mo_stepEnd.2.1 19 = .ok (.if_icmp .ne 7, 3) := by decide +kernel
theorem d_Mo_stepEnd_22 : decode mm_Mo_stepEnd.2.1 22 = .ok (.iload_n 1, 1) := by decide +kernel
theorem d_Mo_stepEnd_23 : decode mm_Mo_stepEnd.2.1 23 = .ok (.iconst 2, 1) := by decide +kernel
theorem d_Mo_stepEnd_24 : decode mm_Mo_stepEnd.2.1 24 = .ok (.iadd, 1) := by decide +kernel
theorem d_Mo_stepEnd_25 : decode mm_Mo_stepEnd.2.1 25 = .ok (.ireturn, 1) := by decide +kernel
theorem d_Mo_stepEnd_26 : decode mm_Mo_stepEnd.2.1 26 = .ok (.iload_n 1, 1) := by decide +kernel
theorem d_Mo_stepEnd_27 : decode mm_Mo_stepEnd.2.1 27 = .ok (.istore_n 2, 1) := by decide +kernel
theorem d_Mo_stepEnd_28 : decode mm_Mo_stepEnd.2.1 28 = .ok (.iload_n 2, 1) := by decide +kernel
theorem d_Mo_stepEnd_29 : decode mm_Mo_stepEnd.2.1 29 = .ok (.iload_n 1, 1) := by decide +kernel
theorem d_Mo_stepEnd_30 : decode mm_Mo_stepEnd.2.1 30 = .ok (.iconst 3, 1) := by decide +kernel
theorem d_Mo_stepEnd_31 : decode mm_Mo_stepEnd.2.1 31 = .ok (.iadd, 1) := by decide +kernel
theorem d_Mo_stepEnd_32 : decode mm_Mo_stepEnd.2.1 32 = .ok (.if_icmp .ge 20, 3) := by decide +kernel
theorem d_Mo_stepEnd_35 : decode mm_Mo_stepEnd.2.1 35 = .ok (.aload_n 0, 1) := by decide +kernel
theorem d_Mo_stepEnd_36 : decode mm_Mo_stepEnd.2.1 36 = .ok (.iload_n 2, 1) := by decide +kernel
theorem d_Mo_stepEnd_37 : decode mm_Mo_stepEnd.2.1 37 = .ok (.invokevirtual 189, 3) := by decide +kernel
theorem d_Mo_stepEnd_40 : decode mm_Mo_stepEnd.2.1 40 = .ok (.invokestatic 195, 3) := by decide +kernel
theorem d_Mo_stepEnd_43 : decode mm_Mo_stepEnd.2.1 43 = .ok (.ifCond .eq 9, 3) := by decide +kernel
theorem d_Mo_stepEnd_46 : decode mm_Mo_stepEnd.2.1 46 = .ok (.iinc 2 1, 3) := by decide +kernel
theorem d_Mo_stepEnd_49 : decode mm_Mo_stepEnd.2.1 49 = .ok (.goto (-21), 3) := by decide +kernel
theorem d_Mo_stepEnd_52 : decode mm_Mo_stepEnd.2.1 52 = .ok (.iload_n 2, 1) := by decide +kernel
theorem d_Mo_stepEnd_53 : decode mm_Mo_stepEnd.2.1 53 = .ok (.ireturn, 1) := by decide +kernel
def wp_Mo_stepEnd_28   (K : Int32 → MzM → Prop) : Nat → Int32 → Int32 → MzM → Prop
  | 0, _, _, _ => False
  | r0 + 1, y1, y2, M => (((y1 + (3 : Int32)) ≤ y2 → K y2 M) ∧ (¬ (y1 + (3 : Int32)) ≤ y2 → wp_Mo_ch  y2 M (fun v16 M13 => wp_Mo_isLetter  v16 M13 (fun v20 M17 => ((v20 = 0 → K y2 M17) ∧ (¬ v20 = 0 → (wp_Mo_stepEnd_28   K r0) y1 (y2 + (1 : Int32)) M17))))))
def wp_Mo_stepEnd_26   (K : Int32 → MzM → Prop) (y1 : Int32) (M : MzM) : Prop := (∃ r11 : Nat, wp_Mo_stepEnd_28   K r11 y1 y1 M)
def wp_Mo_stepEnd  (a1 : Int32) (M : MzM) (K : Int32 → MzM → Prop) : Prop := wp_Mo_ch  a1 M (fun v4 M1 => ((¬ v4 = (46 : Int32) → wp_Mo_stepEnd_26   K a1 M1) ∧ (v4 = (46 : Int32) → wp_Mo_ch  (a1 + (1 : Int32)) M1 (fun v8 M5 => ((¬ v8 = (46 : Int32) → wp_Mo_stepEnd_26   K a1 M5) ∧ (v8 = (46 : Int32) → K (a1 + (2 : Int32)) M5))))))
theorem tm_Mo_stepEnd_28 {G : MzG} {B : MzB} {d : Nat} {K : Int32 → MzM → Prop} (hF : mzLive true B)     : ∀ (r0 : Nat) (y1 : Int32) (y2 : Int32) (M : MzM), mzLnk true M → wp_Mo_stepEnd_28   K r0 y1 y2 M → MzS G B (d + 1) mm_Mo_stepEnd M (0, 0) (mzK1 true B K) 28 [(0, .ref (mz_ad B (30, 0))), (1, .int y1), (2, .int y2)] [] := by
  intro r0
  induction r0 with
  | zero => intro y1 y2 M hL h; exact False.elim h
  | succ r0 hH28 =>
    intro y1 y2 M hL h
    unfold wp_Mo_stepEnd_28 at h
    exact (mz_iload_n d_Mo_stepEnd_28 rfl (mz_iload_n d_Mo_stepEnd_29 rfl (mz_iconst (3 : Int32) d_Mo_stepEnd_30 (by decide) (mz_iadd d_Mo_stepEnd_31 (mz_icmp_ge 52 d_Mo_stepEnd_32 rfl (fun hc22 => (mz_iload_n d_Mo_stepEnd_52 rfl (mz_iret .int d_Mo_stepEnd_53 rfl rfl ⟨rfl, hL, _, rfl, (h.1 hc22)⟩))) (fun hc22 => (mz_aload_n d_Mo_stepEnd_35 rfl (mz_iload_n d_Mo_stepEnd_36 rfl (mz_callV (As := [.int y2]) (st := []) (hF 30 0 rfl (by decide)) rfl (mzClOf cl_10) 0 0 d_Mo_stepEnd_37 cs_Mo_ch wl_Mo_189 wi_Mo_ch wse_Mo_ch (Nat.le_of_ble_eq_true rfl) (Nat.zero_le _) (Nat.zero_le _) (MzC.mono (tm_Mo_ch (d := d) hF  hL (h.2 hc22)) (fun r9 B9 M13 hq15 => by obtain ⟨rfl, hL14, v16, rfl, hq15⟩ := hq15; exact ⟨_, rfl, (mz_callS (As := [.int v16]) (st := []) 0 0 d_Mo_stepEnd_40 cs_Mo_isLetter wl_Mo_195 ws_Mo_isLetter (Nat.le_of_ble_eq_true rfl) (Nat.zero_le _) (Nat.zero_le _) (MzC.mono (tm_Mo_isLetter (d := d) hF  hL14 hq15) (fun r9 B9 M17 hq19 => by obtain ⟨rfl, hL18, v20, rfl, hq19⟩ := hq19; exact ⟨_, rfl, (mz_if_eq 52 d_Mo_stepEnd_43 rfl (fun hc21 => (mz_iload_n d_Mo_stepEnd_52 rfl (mz_iret .int d_Mo_stepEnd_53 rfl rfl ⟨rfl, hL18, _, rfl, (hq19.1 hc21)⟩))) (fun hc21 => (mz_iinc (y2 + (1 : Int32)) d_Mo_stepEnd_46 rfl (by decide) rfl (mz_goto 28 d_Mo_stepEnd_49 rfl (MzS.loc [(0, .ref (mz_ad B (30, 0))), (1, .int y1), (2, .int (y2 + (1 : Int32)))] ⟨rfl, rfl, rfl, trivial⟩ (hH28 y1 (y2 + (1 : Int32)) M17 hL18 (hq19.2 hc21)))))))⟩)))⟩)))))))))))
theorem tm_Mo_stepEnd_26 {G : MzG} {B : MzB} {d : Nat} {K : Int32 → MzM → Prop} (hF : mzLive true B)     (y1 : Int32) (M : MzM) (hL : mzLnk true M) (h : wp_Mo_stepEnd_26   K y1 M) : MzS G B (d + 1) mm_Mo_stepEnd M (0, 0) (mzK1 true B K) 26 [(0, .ref (mz_ad B (30, 0))), (1, .int y1)] [] := by
  unfold wp_Mo_stepEnd_26 at h
  exact (mz_iload_n d_Mo_stepEnd_26 rfl (mz_istore_n d_Mo_stepEnd_27 (by decide) (MzS.loc [(0, .ref (mz_ad B (30, 0))), (1, .int y1), (2, .int y1)] ⟨rfl, rfl, rfl, trivial⟩ (match h with | ⟨r11, h12⟩ => tm_Mo_stepEnd_28 hF   r11 y1 y1 M hL h12))))
theorem tm_Mo_stepEnd {G : MzG} {B : MzB} {d : Nat} {K : Int32 → MzM → Prop} (hF : mzLive true B)   {a1 : Int32} {M : MzM} (hL : mzLnk true M) (h : wp_Mo_stepEnd  a1 M K) : MzC G B (d + 1) mm_Mo_stepEnd [.ref (mz_ad B (30, 0)), .int a1] M (0, 0) (mzK1 true B K) := by
  unfold wp_Mo_stepEnd at h
  exact MzC.of rfl (Nat.le_of_ble_eq_true rfl) (show MzS G B (d + 1) mm_Mo_stepEnd M (0, 0) (mzK1 true B K) 0 [(0, .ref (mz_ad B (30, 0))), (1, .int a1)] [] from (mz_aload_n d_Mo_stepEnd_0 rfl (mz_iload_n d_Mo_stepEnd_1 rfl (mz_callV (As := [.int a1]) (st := []) (hF 30 0 rfl (by decide)) rfl (mzClOf cl_10) 0 0 d_Mo_stepEnd_2 cs_Mo_ch wl_Mo_189 wi_Mo_ch wse_Mo_ch (Nat.le_of_ble_eq_true rfl) (Nat.zero_le _) (Nat.zero_le _) (MzC.mono (tm_Mo_ch (d := d) hF  hL h) (fun r9 B9 M1 hq3 => by obtain ⟨rfl, hL2, v4, rfl, hq3⟩ := hq3; exact ⟨_, rfl, (mz_bipush (46 : Int32) d_Mo_stepEnd_5 (by decide) (mz_icmp_ne 26 d_Mo_stepEnd_7 rfl (fun hc10 => (MzS.loc [(0, .ref (mz_ad B (30, 0))), (1, .int a1)] ⟨rfl, rfl, trivial⟩ (tm_Mo_stepEnd_26 hF   a1 M1 hL2 (hq3.1 hc10)))) (fun hc10 => (mz_aload_n d_Mo_stepEnd_10 rfl (mz_iload_n d_Mo_stepEnd_11 rfl (mz_iconst (1 : Int32) d_Mo_stepEnd_12 (by decide) (mz_iadd d_Mo_stepEnd_13 (mz_callV (As := [.int (a1 + (1 : Int32))]) (st := []) (hF 30 0 rfl (by decide)) rfl (mzClOf cl_10) 0 0 d_Mo_stepEnd_14 cs_Mo_ch wl_Mo_189 wi_Mo_ch wse_Mo_ch (Nat.le_of_ble_eq_true rfl) (Nat.zero_le _) (Nat.zero_le _) (MzC.mono (tm_Mo_ch (d := d) hF  hL2 (hq3.2 hc10)) (fun r9 B9 M5 hq7 => by obtain ⟨rfl, hL6, v8, rfl, hq7⟩ := hq7; exact ⟨_, rfl, (mz_bipush (46 : Int32) d_Mo_stepEnd_17 (by decide) (mz_icmp_ne 26 d_Mo_stepEnd_19 rfl (fun hc9 => (MzS.loc [(0, .ref (mz_ad B (30, 0))), (1, .int a1)] ⟨rfl, rfl, trivial⟩ (tm_Mo_stepEnd_26 hF   a1 M5 hL6 (hq7.1 hc9)))) (fun hc9 => (mz_iload_n d_Mo_stepEnd_22 rfl (mz_iconst (2 : Int32) d_Mo_stepEnd_23 (by decide) (mz_iadd d_Mo_stepEnd_24 (mz_iret .int d_Mo_stepEnd_25 rfl rfl ⟨rfl, hL6, _, rfl, (hq7.2 hc9)⟩)))))))⟩))))))))))⟩))))))
