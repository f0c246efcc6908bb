def mm_Mo_say : MzT := (⟨"ParcelLineModel", "say", "(IIII)I"⟩, prog_14_method_75_code, 7, (Option.some Jvm.ClassFile.FieldType.int))
theorem cs_Mo_say {mm : MzT} : mzCall mm mm_Mo_say 4 := ⟨wn_Mo, wco_Mo_say, by decide +kernel, by decide⟩
theorem d_Mo_say_0 : decode mm_Mo_say.2.1 0 = .ok (.aload_n 0, 1) := by decide +kernel
theorem d_Mo_say_1 : decode mm_Mo_say.2.1 1 = .ok (.getfield 28, 3) := by decide +kernel
theorem d_Mo_say_4 : decode mm_Mo_say.2.1 4 = .ok (.iload_n 1, 1) := by decide +kernel
theorem d_Mo_say_5 : decode mm_Mo_say.2.1 5 = .ok (.iaload, 1) := by decide +kernel
theorem d_Mo_say_6 : decode mm_Mo_say.2.1 6 = .ok (.istore 5, 2) := by decide +kernel
theorem d_Mo_say_8 : decode mm_Mo_say.2.1 8 = .ok (.iconst 3, 1) := by decide +kernel
theorem d_Mo_say_9 : decode mm_Mo_say.2.1 9 = .ok (.istore 6, 2) := by decide +kernel
theorem d_Mo_say_11 : decode mm_Mo_say.2.1 11 = .ok (.iload 6, 2) := by decide +kernel
theorem d_Mo_say_13 : decode mm_Mo_say.2.1 13 = .ok (.ifCond .lt 36, 3) := by decide +kernel
theorem d_Mo_say_16 : decode mm_Mo_say.2.1 16 = .ok (.iload 5, 2) := by decide +kernel
theorem d_Mo_say_18 : decode mm_Mo_say.2.1 18 = .ok (.bipush 7, 2) := by decide +kernel
theorem d_Mo_say_20 : decode mm_Mo_say.2.1 20 = .ok (.iload 6, 2) := by decide +kernel
theorem d_Mo_say_22 : decode mm_Mo_say.2.1 22 = .ok (.imul, 1) := by decide +kernel
theorem d_Mo_say_23 : decode mm_Mo_say.2.1 23 = .ok (.ishr, 1) := by decide +kernel
theorem d_Mo_say_24 : decode mm_Mo_say.2.1 24 = .ok (.ifCond .le 19, 3) := by decide +kernel
theorem d_Mo_say_27 : decode mm_Mo_say.2.1 27 = .ok (.aload_n 0, 1) := by decide +kernel
theorem d_Mo_say_28 : decode mm_Mo_say.2.1 28 = .ok (.iconst 1, 1) := by decide +kernel
theorem d_Mo_say_29 : decode mm_Mo_say.2.1 29 = .ok (.iload 5, 2) := by decide +kernel
theorem d_Mo_say_31 : decode mm_Mo_say.2.1 31 = .ok (.bipush 7, 2) := by decide +kernel
theorem d_Mo_say_33 : decode mm_Mo_say.2.1 33 = .ok (.iload 6, 2) := by decide +kernel
theorem d_Mo_say_35 : decode mm_Mo_say.2.1 35 = .ok (.imul, 1) := by decide +kernel
theorem d_Mo_say_36 : decode mm_Mo_say.2.1 36 = .ok (.ishr, 1) := by decide +kernel
theorem d_Mo_say_37 : decode mm_Mo_say.2.1 37 = .ok (.bipush 127, 2) := by decide +kernel
theorem d_Mo_say_39 : decode mm_Mo_say.2.1 39 = .ok (.iand, 1) := by decide +kernel
theorem d_Mo_say_40 : decode mm_Mo_say.2.1 40 = .ok (.invokevirtual 186, 3) := by decide +kernel
theorem d_Mo_say_43 : decode mm_Mo_say.2.1 43 = .ok (.iinc 6 (-1), 3) := by decide +kernel
theorem d_Mo_say_46 : decode mm_Mo_say.2.1 46 = .ok (.goto (-35), 3) := by decide +kernel
theorem d_Mo_say_49 : decode mm_Mo_say.2.1 49 = .ok (.iload_n 1, 1) := by decide +kernel
theorem d_Mo_say_50 : decode mm_Mo_say.2.1 50 = .ok (.bipush 10, 2) := by decide +kernel
theorem d_Mo_say_52 : decode mm_Mo_say.2.1 52 = .ok (.if_icmp .eq 10, 3) := by decide +kernel
theorem d_Mo_say_55 : decode mm_Mo_say.2.1 55 = .ok (.aload_n 0, 1) := by decide +kernel
theorem d_Mo_say_56 : decode mm_Mo_say.2.1 56 = .ok (.iconst 1, 1) := by decide +kernel
theorem d_Mo_say_57 : decode mm_Mo_say.2.1 57 = .ok (.bipush 32, 2) := by decide +kernel
theorem d_Mo_say_59 : decode mm_Mo_say.2.1 59 = .ok (.invokevirtual 186, 3) := by decide +kernel
theorem d_Mo_say_62 : decode mm_Mo_say.2.1 62 = .ok (.iload_n 2, 1) := by decide +kernel
theorem d_Mo_say_63 : decode mm_Mo_say.2.1 63 = .ok (.ifCond .le 9, 3) := by decide +kernel
theorem d_Mo_say_66 : decode mm_Mo_say.2.1 66 = .ok (.aload_n 0, 1) := by decide +kernel
theorem d_Mo_say_67 : decode mm_Mo_say.2.1 67 = .ok (.iconst 1, 1) := by decide +kernel
theorem d_Mo_say_68 : decode mm_Mo_say.2.1 68 = .ok (.iload_n 2, 1) := by decide +kernel
theorem d_Mo_say_69 : decode mm_Mo_say.2.1 69 = .ok (.invokevirtual 186, 3) := by decide +kernel
theorem d_Mo_say_72 : decode mm_Mo_say.2.1 72 = .ok (.iload_n 3, 1) := by decide +kernel
theorem d_Mo_say_73 : decode mm_Mo_say.2.1 73 = .ok (.istore 6, 2) := by decide +kernel
theorem d_Mo_say_75 : decode mm_Mo_say.2.1 75 = .ok (.iload 6, 2) := by decide +kernel
theorem d_Mo_say_77 : decode mm_Mo_say.2.1 77 = .ok (.ifCond .le 25, 3) := by decide +kernel
theorem d_Mo_say_80 : decode mm_Mo_say.2.1 80 = .ok (.aload_n 0, 1) := by decide +kernel
theorem d_Mo_say_81 : decode mm_Mo_say.2.1 81 = .ok (.iconst 1, 1) := by decide +kernel
theorem d_Mo_say_82 : decode mm_Mo_say.2.1 82 = .ok (.iload 6, 2) := by decide +kernel
theorem d_Mo_say_84 : decode mm_Mo_say.2.1 84 = .ok (.sipush 128, 3) := by decide +kernel
theorem d_Mo_say_87 : decode mm_Mo_say.2.1 87 = .ok (.irem, 1) := by decide +kernel
theorem d_Mo_say_88 : decode mm_Mo_say.2.1 88 = .ok (.invokevirtual 186, 3) := by decide +kernel
theorem d_Mo_say_91 : decode mm_Mo_say.2.1 91 = .ok (.iload 6, 2) := by decide +kernel
theorem d_Mo_say_93 : decode mm_Mo_say.2.1 93 = .ok (.sipush 128, 3) := by decide +kernel
theorem d_Mo_say_96 : decode mm_Mo_say.2.1 96 = .ok (.idiv, 1) := by decide +kernel
theorem d_Mo_say_97 : decode mm_Mo_say.2.1 97 = .ok (.istore 6, 2) := by decide +kernel
theorem d_Mo_say_99 : decode mm_Mo_say.2.1 99 = .ok (.goto (-24), 3) := by decide +kernel
theorem d_Mo_say_102 : decode mm_Mo_say.2.1 102 = .ok (.iload 4, 2) := by decide +kernel
theorem d_Mo_say_104 : decode mm_Mo_say.2.1 104 = .ok (.bipush 9, 2) := by decide +kernel
theorem d_Mo_say_106 : decode mm_Mo_say.2.1 106 = .ok (.if_icmp .le 16, 3) := by decide +kernel
theorem d_Mo_say_109 : decode mm_Mo_say.2.1 109 = .ok (.aload_n 0, 1) := by decide +kernel
theorem d_Mo_say_110 : decode mm_Mo_say.2.1 110 = .ok (.iconst 1, 1) := by decide +kernel
theorem d_Mo_say_111 : decode mm_Mo_say.2.1 111 = .ok (.bipush 48, 2) := by decide +kernel
theorem d_Mo_say_113 : decode mm_Mo_say.2.1 113 = .ok (.iload 4, 2) := by decide +kernel
theorem d_Mo_say_115 : decode mm_Mo_say.2.1 115 = .ok (.bipush 10, 2) := by decide +kernel
theorem d_Mo_say_117 : decode mm_Mo_say.2.1 117 = .ok (.idiv, 1) := by decide +kernel
theorem d_Mo_say_118 : decode mm_Mo_say.2.1 118 = .ok (.iadd, 1) := by decide +kernel
theorem d_Mo_say_119 : decode mm_Mo_say.2.1 119 = .ok (.invokevirtual 186, 3) := by decide +kernel
theorem d_Mo_say_122 : decode mm_Mo_say.2.1 122 = .ok (.iload 4, 2) := by decide +kernel
theorem d_Mo_say_124 : decode mm_Mo_say.2.1 124 = .ok (.ifCond .lt 16, 3) := by decide +kernel
theorem d_Mo_say_127 : decode mm_Mo_say.2.1 127 = .ok (.aload_n 0, 1) := by decide +kernel
theorem d_Mo_say_128 : decode mm_Mo_say.2.1 128 = .ok (.iconst 1, 1) := by decide +kernel
theorem d_Mo_say_129 : decode mm_Mo_say.2.1 129 = .ok (.bipush 48, 2) := by decide +kernel
theorem d_Mo_say_131 : decode mm_Mo_say.2.1 131 = .ok (.iload 4, 2) := by decide +kernel
theorem d_Mo_say_133 : decode mm_Mo_say.2.1 133 = .ok (.bipush 10, 2) := by decide +kernel
theorem d_Mo_say_135 : decode mm_Mo_say.2.1 135 = .ok (.irem, 1) := by decide +kernel
theorem d_Mo_say_136 : decode mm_Mo_say.2.1 136 = .ok (.iadd, 1) := by decide +kernel
theorem d_Mo_say_137 : decode mm_Mo_say.2.1 137 = .ok (.invokevirtual 186, 3) := by decide +kernel
theorem d_Mo_say_140 : decode mm_Mo_say.2.1 140 = .ok (.aload_n 0, 1) := by decide +kernel
theorem d_Mo_say_141 : decode mm_Mo_say.2.1 141 = .ok (.iconst 1, 1) := by decide +kernel
theorem d_Mo_say_142 : decode mm_Mo_say.2.1 142 = .ok (.bipush 13, 2) := by decide +kernel
theorem d_Mo_say_144 : decode mm_Mo_say.2.1 144 = .ok (.invokevirtual 186, 3) := by decide +kernel
theorem d_Mo_say_147 : decode mm_Mo_say.2.1 147 = .ok (.aload_n 0, 1) := by decide +kernel
theorem d_Mo_say_148 : decode mm_Mo_say.2.1 148 = .ok (.iconst 1, 1) := by decide +kernel
theorem d_Mo_say_149 : decode mm_Mo_say.2.1 149 = .ok (.bipush 10, 2) := by decide +kernel
theorem d_Mo_say_151 : decode mm_Mo_say.2.1 151 = .ok (.invokevirtual 186, 3) := by decide +kernel
theorem d_Mo_say_154 : decode mm_Mo_say.2.1 154 = .ok (.aload_n 0, 1) := by decide +kernel
theorem d_Mo_say_155 : decode mm_Mo_say.2.1 155 = .ok (.getfield 143, 3) := by decide +kernel
theorem d_Mo_say_158 : decode mm_Mo_say.2.1 158 = .ok (.ireturn, 1) := by decide +kernel
def wp_Mo_say_43  (H11 : Int32 → Int32 → Int32 → Int32 → Int32 → Int32 → MzM → Prop) (K : Int32 → MzM → Prop) (y1 : Int32) (y2 : Int32) (y3 : Int32) (y4 : Int32) (y5 : Int32) (y6 : Int32) (M : MzM) : Prop := H11 y1 y2 y3 y4 y5 (y6 + (-1 : Int32)) M
def wp_Mo_say_140   (K : Int32 → MzM → Prop)  (M : MzM) : Prop := wp_Mo_take1  (1 : Int32) (13 : Int32) M (fun M34 => wp_Mo_take1  (1 : Int32) (10 : Int32) M34 (fun M37 => K (mz_i M37 (30, 0) 30) M37))
def wp_Mo_say_122   (K : Int32 → MzM → Prop) (y4 : Int32) (M : MzM) : Prop := ((y4 < 0 → wp_Mo_say_140   K  M) ∧ (¬ y4 < 0 → wp_Mo_take1  (1 : Int32) ((48 : Int32) + (y4 - y4 / (10 : Int32) * (10 : Int32))) M (fun M30 => wp_Mo_say_140   K  M30)))
def wp_Mo_say_75   (K : Int32 → MzM → Prop) : Nat → Int32 → Int32 → MzM → Prop
  | 0, _, _, _ => False
  | r0 + 1, y4, y6, M => ((y6 ≤ 0 → ((y4 ≤ (9 : Int32) → wp_Mo_say_122   K y4 M) ∧ (¬ y4 ≤ (9 : Int32) → wp_Mo_take1  (1 : Int32) ((48 : Int32) + (y4 / (10 : Int32))) M (fun M22 => wp_Mo_say_122   K y4 M22)))) ∧ (¬ y6 ≤ 0 → wp_Mo_take1  (1 : Int32) (y6 - y6 / (128 : Int32) * (128 : Int32)) M (fun M26 => (wp_Mo_say_75   K r0) y4 (y6 / (128 : Int32)) M26)))
def wp_Mo_say_72   (K : Int32 → MzM → Prop) (y3 : Int32) (y4 : Int32) (M : MzM) : Prop := (∃ r20 : Nat, wp_Mo_say_75   K r20 y4 y3 M)
def wp_Mo_say_62   (K : Int32 → MzM → Prop) (y2 : Int32) (y3 : Int32) (y4 : Int32) (M : MzM) : Prop := ((y2 ≤ 0 → wp_Mo_say_72   K y3 y4 M) ∧ (¬ y2 ≤ 0 → wp_Mo_take1  (1 : Int32) y2 M (fun M16 => wp_Mo_say_72   K y3 y4 M16)))
def wp_Mo_say_11   (K : Int32 → MzM → Prop) : Nat → Int32 → Int32 → Int32 → Int32 → Int32 → Int32 → MzM → Prop
  | 0, _, _, _, _, _, _, _ => False
  | r0 + 1, y1, y2, y3, y4, y5, y6, M => ((y6 < 0 → ((y1 = (10 : Int32) → wp_Mo_say_62   K y2 y3 y4 M) ∧ (¬ y1 = (10 : Int32) → wp_Mo_take1  (1 : Int32) (32 : Int32) M (fun M7 => wp_Mo_say_62   K y2 y3 y4 M7)))) ∧ (¬ y6 < 0 → (((y5 >>> (((7 : Int32) * y6) &&& 31)) ≤ 0 → wp_Mo_say_43  (wp_Mo_say_11   K r0) K y1 y2 y3 y4 y5 y6 M) ∧ (¬ (y5 >>> (((7 : Int32) * y6) &&& 31)) ≤ 0 → wp_Mo_take1  (1 : Int32) ((y5 >>> (((7 : Int32) * y6) &&& 31)) &&& (127 : Int32)) M (fun M11 => wp_Mo_say_43  (wp_Mo_say_11   K r0) K y1 y2 y3 y4 y5 y6 M11)))))
def wp_Mo_say  (a1 : Int32) (a2 : Int32) (a3 : Int32) (a4 : Int32) (M : MzM) (K : Int32 → MzM → Prop) : Prop := (∃ j1 : Nat, a1.toInt = (j1 : Int) ∧ j1 < 22 ∧ (∃ r5 : Nat, wp_Mo_say_11   K r5 a1 a2 a3 a4 (mz_i M (31, 0) j1) (3 : Int32) M))
theorem tm_Mo_say_43 {G : MzG} {B : MzB} {d : Nat} {K : Int32 → MzM → Prop} (hF : mzLive true B)   {H11 : Int32 → Int32 → Int32 → Int32 → Int32 → Int32 → MzM → Prop} (hH11 : ∀ (y1 : Int32) (y2 : Int32) (y3 : Int32) (y4 : Int32) (y5 : Int32) (y6 : Int32) (M : MzM), mzLnk true M → H11 y1 y2 y3 y4 y5 y6 M → MzS G B (d + 10) mm_Mo_say M (0, 0) (mzK1 true B K) 11 [(0, .ref (mz_ad B (30, 0))), (1, .int y1), (2, .int y2), (3, .int y3), (4, .int y4), (5, .int y5), (6, .int y6)] []) (y1 : Int32) (y2 : Int32) (y3 : Int32) (y4 : Int32) (y5 : Int32) (y6 : Int32) (M : MzM) (hL : mzLnk true M) (h : wp_Mo_say_43  H11 K y1 y2 y3 y4 y5 y6 M) : MzS G B (d + 10) mm_Mo_say M (0, 0) (mzK1 true B K) 43 [(0, .ref (mz_ad B (30, 0))), (1, .int y1), (2, .int y2), (3, .int y3), (4, .int y4), (5, .int y5), (6, .int y6)] [] := by
  unfold wp_Mo_say_43 at h
  exact (mz_iinc (y6 + (-1 : Int32)) d_Mo_say_43 rfl (by decide) rfl (mz_goto 11 d_Mo_say_46 rfl (MzS.loc [(0, .ref (mz_ad B (30, 0))), (1, .int y1), (2, .int y2), (3, .int y3), (4, .int y4), (5, .int y5), (6, .int (y6 + (-1 : Int32)))] ⟨rfl, rfl, rfl, rfl, rfl, rfl, rfl, trivial⟩ (hH11 y1 y2 y3 y4 y5 (y6 + (-1 : Int32)) M hL h))))
theorem tm_Mo_say_140 {G : MzG} {B : MzB} {d : Nat} {K : Int32 → MzM → Prop} (hF : mzLive true B)      (M : MzM) (hL : mzLnk true M) (h : wp_Mo_say_140   K  M) : MzS G B (d + 10) mm_Mo_say M (0, 0) (mzK1 true B K) 140 [(0, .ref (mz_ad B (30, 0)))] [] := by
  unfold wp_Mo_say_140 at h
  exact (mz_aload_n d_Mo_say_140 rfl (mz_iconst (1 : Int32) d_Mo_say_141 (by decide) (mz_bipush (13 : Int32) d_Mo_say_142 (by decide) (mz_callV (As := [.int (1 : Int32), .int (13 : Int32)]) (st := []) (hF 30 0 rfl (by decide)) rfl (mzClOf cl_10) 0 0 d_Mo_say_144 cs_Mo_take1 wl_Mo_186 wi_Mo_take1 wse_Mo_take1 (Nat.le_of_ble_eq_true rfl) (Nat.zero_le _) (Nat.zero_le _) (MzC.mono (tm_Mo_take1 (d := d) hF  hL h) (fun r9 B9 M34 hq36 => by obtain ⟨rfl, hL35, rfl, hq36⟩ := hq36; exact ⟨none, rfl, (mz_aload_n d_Mo_say_147 rfl (mz_iconst (1 : Int32) d_Mo_say_148 (by decide) (mz_bipush (10 : Int32) d_Mo_say_149 (by decide) (mz_callV (As := [.int (1 : Int32), .int (10 : Int32)]) (st := []) (hF 30 0 rfl (by decide)) rfl (mzClOf cl_10) 0 0 d_Mo_say_151 cs_Mo_take1 wl_Mo_186 wi_Mo_take1 wse_Mo_take1 (Nat.le_of_ble_eq_true rfl) (Nat.zero_le _) (Nat.zero_le _) (MzC.mono (tm_Mo_take1 (d := d) hF  hL35 hq36) (fun r9 B9 M37 hq39 => by obtain ⟨rfl, hL38, rfl, hq39⟩ := hq39; exact ⟨none, rfl, (mz_aload_n d_Mo_say_154 rfl (mz_getI (k := 30) cl_10 d_Mo_say_155 (by decide) wf_Mo_143 rfl (hF 30 0 rfl (by decide)) rfl (mz_iret .int d_Mo_say_158 rfl rfl ⟨rfl, hL38, _, rfl, hq39⟩)))⟩))))))⟩))))))
theorem tm_Mo_say_122 {G : MzG} {B : MzB} {d : Nat} {K : Int32 → MzM → Prop} (hF : mzLive true B)     (y4 : Int32) (M : MzM) (hL : mzLnk true M) (h : wp_Mo_say_122   K y4 M) : MzS G B (d + 10) mm_Mo_say M (0, 0) (mzK1 true B K) 122 [(0, .ref (mz_ad B (30, 0))), (4, .int y4)] [] := by
  unfold wp_Mo_say_122 at h
  exact (mz_iload d_Mo_say_122 rfl (mz_if_lt 140 d_Mo_say_124 rfl (fun hc33 => (MzS.loc [(0, .ref (mz_ad B (30, 0)))] ⟨rfl, trivial⟩ (tm_Mo_say_140 hF    M hL (h.1 hc33)))) (fun hc33 => (mz_aload_n d_Mo_say_127 rfl (mz_iconst (1 : Int32) d_Mo_say_128 (by decide) (mz_bipush (48 : Int32) d_Mo_say_129 (by decide) (mz_iload d_Mo_say_131 rfl (mz_bipush (10 : Int32) d_Mo_say_133 (by decide) (mz_irem d_Mo_say_135 (by decide) (mz_iadd d_Mo_say_136 (mz_callV (As := [.int (1 : Int32), .int ((48 : Int32) + (y4 - y4 / (10 : Int32) * (10 : Int32)))]) (st := []) (hF 30 0 rfl (by decide)) rfl (mzClOf cl_10) 0 0 d_Mo_say_137 cs_Mo_take1 wl_Mo_186 wi_Mo_take1 wse_Mo_take1 (Nat.le_of_ble_eq_true rfl) (Nat.zero_le _) (Nat.zero_le _) (MzC.mono (tm_Mo_take1 (d := d) hF  hL (h.2 hc33)) (fun r9 B9 M30 hq32 => by obtain ⟨rfl, hL31, rfl, hq32⟩ := hq32; exact ⟨none, rfl, (MzS.loc [(0, .ref (mz_ad B (30, 0)))] ⟨rfl, trivial⟩ (tm_Mo_say_140 hF    M30 hL31 hq32))⟩)))))))))))))
theorem tm_Mo_say_75 {G : MzG} {B : MzB} {d : Nat} {K : Int32 → MzM → Prop} (hF : mzLive true B)     : ∀ (r0 : Nat) (y4 : Int32) (y6 : Int32) (M : MzM), mzLnk true M → wp_Mo_say_75   K r0 y4 y6 M → MzS G B (d + 10) mm_Mo_say M (0, 0) (mzK1 true B K) 75 [(0, .ref (mz_ad B (30, 0))), (4, .int y4), (6, .int y6)] [] := by
  intro r0
  induction r0 with
  | zero => intro y4 y6 M hL h; exact False.elim h
  | succ r0 hH75 =>
    intro y4 y6 M hL h
    unfold wp_Mo_say_75 at h
    exact (mz_iload d_Mo_say_75 rfl (mz_if_le 102 d_Mo_say_77 rfl (fun hc29 => (mz_iload d_Mo_say_102 rfl (mz_bipush (9 : Int32) d_Mo_say_104 (by decide) (mz_icmp_le 122 d_Mo_say_106 rfl (fun hc25 => (MzS.loc [(0, .ref (mz_ad B (30, 0))), (4, .int y4)] ⟨rfl, rfl, trivial⟩ (tm_Mo_say_122 hF   y4 M hL ((h.1 hc29).1 hc25)))) (fun hc25 => (mz_aload_n d_Mo_say_109 rfl (mz_iconst (1 : Int32) d_Mo_say_110 (by decide) (mz_bipush (48 : Int32) d_Mo_say_111 (by decide) (mz_iload d_Mo_say_113 rfl (mz_bipush (10 : Int32) d_Mo_say_115 (by decide) (mz_idiv d_Mo_say_117 (by decide) (mz_iadd d_Mo_say_118 (mz_callV (As := [.int (1 : Int32), .int ((48 : Int32) + (y4 / (10 : Int32)))]) (st := []) (hF 30 0 rfl (by decide)) rfl (mzClOf cl_10) 0 0 d_Mo_say_119 cs_Mo_take1 wl_Mo_186 wi_Mo_take1 wse_Mo_take1 (Nat.le_of_ble_eq_true rfl) (Nat.zero_le _) (Nat.zero_le _) (MzC.mono (tm_Mo_take1 (d := d) hF  hL ((h.1 hc29).2 hc25)) (fun r9 B9 M22 hq24 => by obtain ⟨rfl, hL23, rfl, hq24⟩ := hq24; exact ⟨none, rfl, (MzS.loc [(0, .ref (mz_ad B (30, 0))), (4, .int y4)] ⟨rfl, rfl, trivial⟩ (tm_Mo_say_122 hF   y4 M22 hL23 hq24))⟩))))))))))))))) (fun hc29 => (mz_aload_n d_Mo_say_80 rfl (mz_iconst (1 : Int32) d_Mo_say_81 (by decide) (mz_iload d_Mo_say_82 rfl (mz_sipush (128 : Int32) d_Mo_say_84 (by decide) (mz_irem d_Mo_say_87 (by decide) (mz_callV (As := [.int (1 : Int32), .int (y6 - y6 / (128 : Int32) * (128 : Int32))]) (st := []) (hF 30 0 rfl (by decide)) rfl (mzClOf cl_10) 0 0 d_Mo_say_88 cs_Mo_take1 wl_Mo_186 wi_Mo_take1 wse_Mo_take1 (Nat.le_of_ble_eq_true rfl) (Nat.zero_le _) (Nat.zero_le _) (MzC.mono (tm_Mo_take1 (d := d) hF  hL (h.2 hc29)) (fun r9 B9 M26 hq28 => by obtain ⟨rfl, hL27, rfl, hq28⟩ := hq28; exact ⟨none, rfl, (mz_iload d_Mo_say_91 rfl (mz_sipush (128 : Int32) d_Mo_say_93 (by decide) (mz_idiv d_Mo_say_96 (by decide) (mz_istore d_Mo_say_97 (by decide) (mz_goto 75 d_Mo_say_99 rfl (MzS.loc [(0, .ref (mz_ad B (30, 0))), (4, .int y4), (6, .int (y6 / (128 : Int32)))] ⟨rfl, rfl, rfl, trivial⟩ (hH75 y4 (y6 / (128 : Int32)) M26 hL27 hq28)))))))⟩)))))))))))
theorem tm_Mo_say_72 {G : MzG} {B : MzB} {d : Nat} {K : Int32 → MzM → Prop} (hF : mzLive true B)     (y3 : Int32) (y4 : Int32) (M : MzM) (hL : mzLnk true M) (h : wp_Mo_say_72   K y3 y4 M) : MzS G B (d + 10) mm_Mo_say M (0, 0) (mzK1 true B K) 72 [(0, .ref (mz_ad B (30, 0))), (3, .int y3), (4, .int y4)] [] := by
  unfold wp_Mo_say_72 at h
  exact (mz_iload_n d_Mo_say_72 rfl (mz_istore d_Mo_say_73 (by decide) (MzS.loc [(0, .ref (mz_ad B (30, 0))), (4, .int y4), (6, .int y3)] ⟨rfl, rfl, rfl, trivial⟩ (match h with | ⟨r20, h21⟩ => tm_Mo_say_75 hF   r20 y4 y3 M hL h21))))
theorem tm_Mo_say_62 {G : MzG} {B : MzB} {d : Nat} {K : Int32 → MzM → Prop} (hF : mzLive true B)     (y2 : Int32) (y3 : Int32) (y4 : Int32) (M : MzM) (hL : mzLnk true M) (h : wp_Mo_say_62   K y2 y3 y4 M) : MzS G B (d + 10) mm_Mo_say M (0, 0) (mzK1 true B K) 62 [(0, .ref (mz_ad B (30, 0))), (2, .int y2), (3, .int y3), (4, .int y4)] [] := by
  unfold wp_Mo_say_62 at h
  exact (mz_iload_n d_Mo_say_62 rfl (mz_if_le 72 d_Mo_say_63 rfl (fun hc19 => (MzS.loc [(0, .ref (mz_ad B (30, 0))), (3, .int y3), (4, .int y4)] ⟨rfl, rfl, rfl, trivial⟩ (tm_Mo_say_72 hF   y3 y4 M hL (h.1 hc19)))) (fun hc19 => (mz_aload_n d_Mo_say_66 rfl (mz_iconst (1 : Int32) d_Mo_say_67 (by decide) (mz_iload_n d_Mo_say_68 rfl (mz_callV (As := [.int (1 : Int32), .int y2]) (st := []) (hF 30 0 rfl (by decide)) rfl (mzClOf cl_10) 0 0 d_Mo_say_69 cs_Mo_take1 wl_Mo_186 wi_Mo_take1 wse_Mo_take1 (Nat.le_of_ble_eq_true rfl) (Nat.zero_le _) (Nat.zero_le _) (MzC.mono (tm_Mo_take1 (d := d) hF  hL (h.2 hc19)) (fun r9 B9 M16 hq18 => by obtain ⟨rfl, hL17, rfl, hq18⟩ := hq18; exact ⟨none, rfl, (MzS.loc [(0, .ref (mz_ad B (30, 0))), (3, .int y3), (4, .int y4)] ⟨rfl, rfl, rfl, trivial⟩ (tm_Mo_say_72 hF   y3 y4 M16 hL17 hq18))⟩)))))))))
theorem tm_Mo_say_11 {G : MzG} {B : MzB} {d : Nat} {K : Int32 → MzM → Prop} (hF : mzLive true B)     : ∀ (r0 : Nat) (y1 : Int32) (y2 : Int32) (y3 : Int32) (y4 : Int32) (y5 : Int32) (y6 : Int32) (M : MzM), mzLnk true M → wp_Mo_say_11   K r0 y1 y2 y3 y4 y5 y6 M → MzS G B (d + 10) mm_Mo_say M (0, 0) (mzK1 true B K) 11 [(0, .ref (mz_ad B (30, 0))), (1, .int y1), (2, .int y2), (3, .int y3), (4, .int y4), (5, .int y5), (6, .int y6)] [] := by
  intro r0
  induction r0 with
  | zero => intro y1 y2 y3 y4 y5 y6 M hL h; exact False.elim h
  | succ r0 hH11 =>
    intro y1 y2 y3 y4 y5 y6 M hL h
    unfold wp_Mo_say_11 at h
    exact (mz_iload d_Mo_say_11 rfl (mz_if_lt 49 d_Mo_say_13 rfl (fun hc15 => (mz_iload_n d_Mo_say_49 rfl (mz_bipush (10 : Int32) d_Mo_say_50 (by decide) (mz_icmp_eq 62 d_Mo_say_52 rfl (fun hc10 => (MzS.loc [(0, .ref (mz_ad B (30, 0))), (2, .int y2), (3, .int y3), (4, .int y4)] ⟨rfl, rfl, rfl, rfl, trivial⟩ (tm_Mo_say_62 hF   y2 y3 y4 M hL ((h.1 hc15).1 hc10)))) (fun hc10 => (mz_aload_n d_Mo_say_55 rfl (mz_iconst (1 : Int32) d_Mo_say_56 (by decide) (mz_bipush (32 : Int32) d_Mo_say_57 (by decide) (mz_callV (As := [.int (1 : Int32), .int (32 : Int32)]) (st := []) (hF 30 0 rfl (by decide)) rfl (mzClOf cl_10) 0 0 d_Mo_say_59 cs_Mo_take1 wl_Mo_186 wi_Mo_take1 wse_Mo_take1 (Nat.le_of_ble_eq_true rfl) (Nat.zero_le _) (Nat.zero_le _) (MzC.mono (tm_Mo_take1 (d := d) hF  hL ((h.1 hc15).2 hc10)) (fun r9 B9 M7 hq9 => by obtain ⟨rfl, hL8, rfl, hq9⟩ := hq9; exact ⟨none, rfl, (MzS.loc [(0, .ref (mz_ad B (30, 0))), (2, .int y2), (3, .int y3), (4, .int y4)] ⟨rfl, rfl, rfl, rfl, trivial⟩ (tm_Mo_say_62 hF   y2 y3 y4 M7 hL8 hq9))⟩))))))))))) (fun hc15 => (mz_iload d_Mo_say_16 rfl (mz_bipush (7 : Int32) d_Mo_say_18 (by decide) (mz_iload d_Mo_say_20 rfl (mz_imul d_Mo_say_22 (mz_ishr d_Mo_say_23 (mz_if_le 43 d_Mo_say_24 rfl (fun hc14 => (MzS.loc [(0, .ref (mz_ad B (30, 0))), (1, .int y1), (2, .int y2), (3, .int y3), (4, .int y4), (5, .int y5), (6, .int y6)] ⟨rfl, rfl, rfl, rfl, rfl, rfl, rfl, trivial⟩ (tm_Mo_say_43 hF  hH11 y1 y2 y3 y4 y5 y6 M hL ((h.2 hc15).1 hc14)))) (fun hc14 => (mz_aload_n d_Mo_say_27 rfl (mz_iconst (1 : Int32) d_Mo_say_28 (by decide) (mz_iload d_Mo_say_29 rfl (mz_bipush (7 : Int32) d_Mo_say_31 (by decide) (mz_iload d_Mo_say_33 rfl (mz_imul d_Mo_say_35 (mz_ishr d_Mo_say_36 (mz_bipush (127 : Int32) d_Mo_say_37 (by decide) (mz_iand d_Mo_say_39 (mz_callV (As := [.int (1 : Int32), .int ((y5 >>> (((7 : Int32) * y6) &&& 31)) &&& (127 : Int32))]) (st := []) (hF 30 0 rfl (by decide)) rfl (mzClOf cl_10) 0 0 d_Mo_say_40 cs_Mo_take1 wl_Mo_186 wi_Mo_take1 wse_Mo_take1 (Nat.le_of_ble_eq_true rfl) (Nat.zero_le _) (Nat.zero_le _) (MzC.mono (tm_Mo_take1 (d := d) hF  hL ((h.2 hc15).2 hc14)) (fun r9 B9 M11 hq13 => by obtain ⟨rfl, hL12, rfl, hq13⟩ := hq13; exact ⟨none, rfl, (MzS.loc [(0, .ref (mz_ad B (30, 0))), (1, .int y1), (2, .int y2), (3, .int y3), (4, .int y4), (5, .int y5), (6, .int y6)] ⟨rfl, rfl, rfl, rfl, rfl, rfl, rfl, trivial⟩ (tm_Mo_say_43 hF  hH11 y1 y2 y3 y4 y5 y6 M11 hL12 hq13))⟩))))))))))))))))))))))
theorem tm_Mo_say {G : MzG} {B : MzB} {d : Nat} {K : Int32 → MzM → Prop} (hF : mzLive true B)   {a1 : Int32} {a2 : Int32} {a3 : Int32} {a4 : Int32} {M : MzM} (hL : mzLnk true M) (h : wp_Mo_say  a1 a2 a3 a4 M K) : MzC G B (d + 10) mm_Mo_say [.ref (mz_ad B (30, 0)), .int a1, .int a2, .int a3, .int a4] M (0, 0) (mzK1 true B K) := by
  unfold wp_Mo_say at h
  exact MzC.of rfl (Nat.le_of_ble_eq_true rfl) (show MzS G B (d + 10) mm_Mo_say M (0, 0) (mzK1 true B K) 0 [(0, .ref (mz_ad B (30, 0))), (1, .int a1), (2, .int a2), (3, .int a3), (4, .int a4)] [] from (mz_aload_n d_Mo_say_0 rfl (mz_getR (k := 0) (a := (31, 0)) cl_10 d_Mo_say_1 (by decide) wf_Mo_28 rfl (hF 30 0 rfl (by decide)) rfl (hL (30, 0) 0 (31, 0) rfl rfl (by decide)) (mz_iload_n d_Mo_say_4 rfl (match h with | ⟨j1, h2, h3, h4⟩ => mz_iald j1 d_Mo_say_5 (hF 31 0 rfl (by decide)) rfl h2 h3 (mz_istore d_Mo_say_6 (by decide) (mz_iconst (3 : Int32) d_Mo_say_8 (by decide) (mz_istore d_Mo_say_9 (by decide) (MzS.loc [(0, .ref (mz_ad B (30, 0))), (1, .int a1), (2, .int a2), (3, .int a3), (4, .int a4), (5, .int (mz_i M (31, 0) j1)), (6, .int (3 : Int32))] ⟨rfl, rfl, rfl, rfl, rfl, rfl, rfl, trivial⟩ (match h4 with | ⟨r5, h6⟩ => tm_Mo_say_11 hF   r5 a1 a2 a3 a4 (mz_i M (31, 0) j1) (3 : Int32) M hL h6))))))))))
def mm_Mo_three : MzT := (⟨"ParcelLineModel", "three", "(III)I"⟩, prog_14_method_76_code, 3, (Option.some Jvm.ClassFile.FieldType.int))
theorem cs_Mo_three {mm : MzT} : mzCall mm mm_Mo_three 3 := ⟨wn_Mo, wco_Mo_three, by decide +kernel, by decide⟩
theorem d_Mo_three_0 : decode mm_Mo_three.2.1 0 = .ok (.iload_n 0, 1) := by decide +kernel
theorem d_Mo_three_1 : decode mm_Mo_three.2.1 1 = .ok (.sipush 128, 3) := by decide +kernel
theorem d_Mo_three_4 : decode mm_Mo_three.2.1 4 = .ok (.iload_n 1, 1) := by decide +kernel
theorem d_Mo_three_5 : decode mm_Mo_three.2.1 5 = .ok (.imul, 1) := by decide +kernel
theorem d_Mo_three_6 : decode mm_Mo_three.2.1 6 = .ok (.iadd, 1) := by decide +kernel
theorem d_Mo_three_7 : decode mm_Mo_three.2.1 7 = .ok (.sipush 16384, 3) := by decide +kernel
theorem d_Mo_three_10 : decode mm_Mo_three.2.1 10 = .ok (.iload_n 2, 1) := by decide +kernel
theorem d_Mo_three_11 : decode mm_Mo_three.2.1 11 = .ok (.imul, 1) := by decide +kernel
theorem d_Mo_three_12 : decode mm_Mo_three.2.1 12 = .ok (.iadd, 1) := by decide +kernel
theorem d_Mo_three_13 : decode mm_Mo_three.2.1 13 = .ok (.ireturn, 1) := by decide +kernel
def wp_Mo_three  (a0 : Int32) (a1 : Int32) (a2 : Int32) (M : MzM) (K : Int32 → MzM → Prop) : Prop := K ((a0 + ((128 : Int32) * a1)) + ((16384 : Int32) * a2)) M
theorem tm_Mo_three {G : MzG} {B : MzB} {d : Nat} {K : Int32 → MzM → Prop} (hF : mzLive true B)   {a0 : Int32} {a1 : Int32} {a2 : Int32} {M : MzM} (hL : mzLnk true M) (h : wp_Mo_three  a0 a1 a2 M K) : MzC G B d mm_Mo_three [.int a0, .int a1, .int a2] M (0, 0) (mzK1 true B K) := by
  unfold wp_Mo_three at h
  exact MzC.of rfl (Nat.le_of_ble_eq_true rfl) (show MzS G B d mm_Mo_three M (0, 0) (mzK1 true B K) 0 [(0, .int a0), (1, .int a1), (2, .int a2)] [] from (mz_iload_n d_Mo_three_0 rfl (mz_sipush (128 : Int32) d_Mo_three_1 (by decide) (mz_iload_n d_Mo_three_4 rfl (mz_imul d_Mo_three_5 (mz_iadd d_Mo_three_6 (mz_sipush (16384 : Int32) d_Mo_three_7 (by decide) (mz_iload_n d_Mo_three_10 rfl (mz_imul d_Mo_three_11 (mz_iadd d_Mo_three_12 (mz_iret .int d_Mo_three_13 rfl rfl ⟨rfl, hL, _, rfl, h⟩)))))))))))
def mm_Mo_login : MzT := (⟨"ParcelLineModel", "login", "()I"⟩, prog_14_method_77_code, 2, (Option.some Jvm.ClassFile.FieldType.int))
theorem cs_Mo_login {mm : MzT} : mzCall mm mm_Mo_login 0 := ⟨wn_Mo, wco_Mo_login, by decide +kernel, by decide⟩
theorem d_Mo_login_0 : decode mm_Mo_login.2.1 0 = .ok (.aload_n 0, 1) := by decide +kernel
theorem d_Mo_login_1 : decode mm_Mo_login.2.1 1 = .ok (.iconst 1, 1) := by decide +kernel
theorem d_Mo_login_2 : decode mm_Mo_login.2.1 2 = .ok (.iconst 0, 1) := by decide +kernel
theorem d_Mo_login_3 : decode mm_Mo_login.2.1 3 = .ok (.bipush 97, 2) := by decide +kernel
theorem d_Mo_login_5 : decode mm_Mo_login.2.1 5 = .ok (.bipush 100, 2) := by decide +kernel
theorem d_Mo_login_7 : decode mm_Mo_login.2.1 7 = .ok (.bipush 109, 2) := by decide +kernel
theorem d_Mo_login_9 : decode mm_Mo_login.2.1 9 = .ok (.invokestatic 349, 3) := by decide +kernel
theorem d_Mo_login_12 : decode mm_Mo_login.2.1 12 = .ok (.iconst (-1), 1) := by decide +kernel
theorem d_Mo_login_13 : decode mm_Mo_login.2.1 13 = .ok (.invokevirtual 353, 3) := by decide +kernel
theorem d_Mo_login_16 : decode mm_Mo_login.2.1 16 = .ok (.istore_n 1, 1) := by decide +kernel
theorem d_Mo_login_17 : decode mm_Mo_login.2.1 17 = .ok (.aload_n 0, 1) := by decide +kernel
theorem d_Mo_login_18 : decode mm_Mo_login.2.1 18 = .ok (.iconst 2, 1) := by decide +kernel
theorem d_Mo_login_19 : decode mm_Mo_login.2.1 19 = .ok (.iconst 0, 1) := by decide +kernel
theorem d_Mo_login_20 : decode mm_Mo_login.2.1 20 = .ok (.bipush 107, 2) := by decide +kernel
theorem d_Mo_login_22 : decode mm_Mo_login.2.1 22 = .ok (.bipush 101, 2) := by decide +kernel
theorem d_Mo_login_24 : decode mm_Mo_login.2.1 24 = .ok (.bipush 121, 2) := by decide +kernel
theorem d_Mo_login_26 : decode mm_Mo_login.2.1 26 = .ok (.invokestatic 349, 3) := by decide +kernel
theorem d_Mo_login_29 : decode mm_Mo_login.2.1 29 = .ok (.iconst (-1), 1) := by decide +kernel
theorem d_Mo_login_30 : decode mm_Mo_login.2.1 30 = .ok (.invokevirtual 353, 3) := by decide +kernel
theorem d_Mo_login_33 : decode mm_Mo_login.2.1 33 = .ok (.istore_n 1, 1) := by decide +kernel
theorem d_Mo_login_34 : decode mm_Mo_login.2.1 34 = .ok (.aload_n 0, 1) := by decide +kernel
theorem d_Mo_login_35 : decode mm_Mo_login.2.1 35 = .ok (.iconst 5, 1) := by decide +kernel
theorem d_Mo_login_36 : decode mm_Mo_login.2.1 36 = .ok (.bipush 73, 2) := by decide +kernel
theorem d_Mo_login_38 : decode mm_Mo_login.2.1 38 = .ok (.iconst 0, 1) := by decide +kernel
theorem d_Mo_login_39 : decode mm_Mo_login.2.1 39 = .ok (.iconst (-1), 1) := by decide +kernel
theorem d_Mo_login_40 : decode mm_Mo_login.2.1 40 = .ok (.invokevirtual 353, 3) := by decide +kernel
theorem d_Mo_login_43 : decode mm_Mo_login.2.1 43 = .ok (.istore_n 1, 1) := by decide +kernel
theorem d_Mo_login_44 : decode mm_Mo_login.2.1 44 = .ok (.aload_n 0, 1) := by decide +kernel
theorem d_Mo_login_45 : decode mm_Mo_login.2.1 45 = .ok (.bipush 10, 2) := by decide +kernel
theorem d_Mo_login_47 : decode mm_Mo_login.2.1 47 = .ok (.iconst 0, 1) := by decide +kernel
theorem d_Mo_login_48 : decode mm_Mo_login.2.1 48 = .ok (.iconst 0, 1) := by decide +kernel
theorem d_Mo_login_49 : decode mm_Mo_login.2.1 49 = .ok (.iconst (-1), 1) := by decide +kernel
theorem d_Mo_login_50 : decode mm_Mo_login.2.1 50 = .ok (.invokevirtual 353, 3) := by decide +kernel
theorem d_Mo_login_53 : decode mm_Mo_login.2.1 53 = .ok (.istore_n 1, 1) := by decide +kernel
theorem d_Mo_login_54 : decode mm_Mo_login.2.1 54 = .ok (.iload_n 1, 1) := by decide +kernel
theorem d_Mo_login_55 : decode mm_Mo_login.2.1 55 = .ok (.ifCond .le 7, 3) := by decide +kernel
theorem d_Mo_login_58 : decode mm_Mo_login.2.1 58 = .ok (.iconst 1, 1) := by decide +kernel
theorem d_Mo_login_59 : decode mm_Mo_login.2.1 59 = .ok (.goto 4, 3) := by decide +kernel
theorem d_Mo_login_62 : decode mm_Mo_login.2.1 62 = .ok (.iconst 5, 1) := by decide +kernel
theorem d_Mo_login_63 : decode mm_Mo_login.2.1 63 = .ok (.ireturn, 1) := by decide +kernel
def wp_Mo_login   (M : MzM) (K : Int32 → MzM → Prop) : Prop := wp_Mo_three  (97 : Int32) (100 : Int32) (109 : Int32) M (fun v4 M1 => wp_Mo_say  (1 : Int32) (0 : Int32) v4 (-1 : Int32) M1 (fun v8 M5 => wp_Mo_three  (107 : Int32) (101 : Int32) (121 : Int32) M5 (fun v12 M9 => wp_Mo_say  (2 : Int32) (0 : Int32) v12 (-1 : Int32) M9 (fun v16 M13 => wp_Mo_say  (5 : Int32) (73 : Int32) (0 : Int32) (-1 : Int32) M13 (fun v20 M17 => wp_Mo_say  (10 : Int32) (0 : Int32) (0 : Int32) (-1 : Int32) M17 (fun v24 M21 => ((v24 ≤ 0 → K (5 : Int32) M21) ∧ (¬ v24 ≤ 0 → K (1 : Int32) M21))))))))
theorem tm_Mo_login {G : MzG} {B : MzB} {d : Nat} {K : Int32 → MzM → Prop} (hF : mzLive true B)    {M : MzM} (hL : mzLnk true M) (h : wp_Mo_login   M K) : MzC G B (d + 11) mm_Mo_login [.ref (mz_ad B (30, 0))] M (0, 0) (mzK1 true B K) := by
  unfold wp_Mo_login at h
  exact MzC.of rfl (Nat.le_of_ble_eq_true rfl) (show MzS G B (d + 11) mm_Mo_login M (0, 0) (mzK1 true B K) 0 [(0, .ref (mz_ad B (30, 0)))] [] from (mz_aload_n d_Mo_login_0 rfl (mz_iconst (1 : Int32) d_Mo_login_1 (by decide) (mz_iconst (0 : Int32) d_Mo_login_2 (by decide) (mz_bipush (97 : Int32) d_Mo_login_3 (by decide) (mz_bipush (100 : Int32) d_Mo_login_5 (by decide) (mz_bipush (109 : Int32) d_Mo_login_7 (by decide) (mz_callS (As := [.int (97 : Int32), .int (100 : Int32), .int (109 : Int32)]) (st := [.int (0 : Int32), .int (1 : Int32), .ref (mz_ad B (30, 0))]) 0 0 d_Mo_login_9 cs_Mo_three wl_Mo_349 ws_Mo_three (Nat.le_of_ble_eq_true rfl) (Nat.zero_le _) (Nat.zero_le _) (MzC.mono (tm_Mo_three (d := (d + 10)) hF  hL h) (fun r9 B9 M1 hq3 => by obtain ⟨rfl, hL2, v4, rfl, hq3⟩ := hq3; exact ⟨_, rfl, (mz_iconst (-1 : Int32) d_Mo_login_12 (by decide) (mz_callV (As := [.int (1 : Int32), .int (0 : Int32), .int v4, .int (-1 : Int32)]) (st := []) (hF 30 0 rfl (by decide)) rfl (mzClOf cl_10) 0 0 d_Mo_login_13 cs_Mo_say wl_Mo_353 wi_Mo_say wse_Mo_say (Nat.le_of_ble_eq_true rfl) (Nat.zero_le _) (Nat.zero_le _) (MzC.mono (tm_Mo_say (d := d) hF  hL2 hq3) (fun r9 B9 M5 hq7 => by obtain ⟨rfl, hL6, v8, rfl, hq7⟩ := hq7; exact ⟨_, rfl, (mz_istore_n d_Mo_login_16 (by decide) (mz_aload_n d_Mo_login_17 rfl (mz_iconst (2 : Int32) d_Mo_login_18 (by decide) (mz_iconst (0 : Int32) d_Mo_login_19 (by decide) (mz_bipush (107 : Int32) d_Mo_login_20 (by decide) (mz_bipush (101 : Int32) d_Mo_login_22 (by decide) (mz_bipush (121 : Int32) d_Mo_login_24 (by decide) (mz_callS (As := [.int (107 : Int32), .int (101 : Int32), .int (121 : Int32)]) (st := [.int (0 : Int32), .int (2 : Int32), .ref (mz_ad B (30, 0))]) 0 0 d_Mo_login_26 cs_Mo_three wl_Mo_349 ws_Mo_three (Nat.le_of_ble_eq_true rfl) (Nat.zero_le _) (Nat.zero_le _) (MzC.mono (tm_Mo_three (d := (d + 10)) hF  hL6 hq7) (fun r9 B9 M9 hq11 => by obtain ⟨rfl, hL10, v12, rfl, hq11⟩ := hq11; exact ⟨_, rfl, (mz_iconst (-1 : Int32) d_Mo_login_29 (by decide) (mz_callV (As := [.int (2 : Int32), .int (0 : Int32), .int v12, .int (-1 : Int32)]) (st := []) (hF 30 0 rfl (by decide)) rfl (mzClOf cl_10) 0 0 d_Mo_login_30 cs_Mo_say wl_Mo_353 wi_Mo_say wse_Mo_say (Nat.le_of_ble_eq_true rfl) (Nat.zero_le _) (Nat.zero_le _) (MzC.mono (tm_Mo_say (d := d) hF  hL10 hq11) (fun r9 B9 M13 hq15 => by obtain ⟨rfl, hL14, v16, rfl, hq15⟩ := hq15; exact ⟨_, rfl, (mz_istore_n d_Mo_login_33 (by decide) (mz_aload_n d_Mo_login_34 rfl (mz_iconst (5 : Int32) d_Mo_login_35 (by decide) (mz_bipush (73 : Int32) d_Mo_login_36 (by decide) (mz_iconst (0 : Int32) d_Mo_login_38 (by decide) (mz_iconst (-1 : Int32) d_Mo_login_39 (by decide) (mz_callV (As := [.int (5 : Int32), .int (73 : Int32), .int (0 : Int32), .int (-1 : Int32)]) (st := []) (hF 30 0 rfl (by decide)) rfl (mzClOf cl_10) 0 0 d_Mo_login_40 cs_Mo_say wl_Mo_353 wi_Mo_say wse_Mo_say (Nat.le_of_ble_eq_true rfl) (Nat.zero_le _) (Nat.zero_le _) (MzC.mono (tm_Mo_say (d := d) hF  hL14 hq15) (fun r9 B9 M17 hq19 => by obtain ⟨rfl, hL18, v20, rfl, hq19⟩ := hq19; exact ⟨_, rfl, (mz_istore_n d_Mo_login_43 (by decide) (mz_aload_n d_Mo_login_44 rfl (mz_bipush (10 : Int32) d_Mo_login_45 (by decide) (mz_iconst (0 : Int32) d_Mo_login_47 (by decide) (mz_iconst (0 : Int32) d_Mo_login_48 (by decide) (mz_iconst (-1 : Int32) d_Mo_login_49 (by decide) (mz_callV (As := [.int (10 : Int32), .int (0 : Int32), .int (0 : Int32), .int (-1 : Int32)]) (st := []) (hF 30 0 rfl (by decide)) rfl (mzClOf cl_10) 0 0 d_Mo_login_50 cs_Mo_say wl_Mo_353 wi_Mo_say wse_Mo_say (Nat.le_of_ble_eq_true rfl) (Nat.zero_le _) (Nat.zero_le _) (MzC.mono (tm_Mo_say (d := d) hF  hL18 hq19) (fun r9 B9 M21 hq23 => by obtain ⟨rfl, hL22, v24, rfl, hq23⟩ := hq23; exact ⟨_, rfl, (mz_istore_n d_Mo_login_53 (by decide) (mz_iload_n d_Mo_login_54 rfl (mz_if_le 62 d_Mo_login_55 rfl (fun hc25 => (mz_iconst (5 : Int32) d_Mo_login_62 (by decide) (mz_iret .int d_Mo_login_63 rfl rfl ⟨rfl, hL22, _, rfl, (hq23.1 hc25)⟩))) (fun hc25 => (mz_iconst (1 : Int32) d_Mo_login_58 (by decide) (mz_goto 63 d_Mo_login_59 rfl (mz_iret .int d_Mo_login_63 rfl rfl ⟨rfl, hL22, _, rfl, (hq23.2 hc25)⟩)))))))⟩)))))))))⟩)))))))))⟩))))⟩))))))))))⟩))))⟩))))))))))
def mm_Mo_askFor : MzT := (⟨"ParcelLineModel", "askFor", "()I"⟩, prog_14_method_78_code, 4, (Option.some Jvm.ClassFile.FieldType.int))
theorem cs_Mo_askFor {mm : MzT} : mzCall mm mm_Mo_askFor 0 := ⟨wn_Mo, wco_Mo_askFor, by decide +kernel, by decide⟩
theorem d_Mo_askFor_0 : decode mm_Mo_askFor.2.1 0 = .ok (.aload_n 0, 1) := by decide +kernel
theorem d_Mo_askFor_1 : decode mm_Mo_askFor.2.1 1 = .ok (.bipush 9, 2) := by decide +kernel
theorem d_Mo_askFor_3 : decode mm_Mo_askFor.2.1 3 = .ok (.bipush 47, 2) := by decide +kernel
theorem d_Mo_askFor_5 : decode mm_Mo_askFor.2.1 5 = .ok (.aload_n 0, 1) := by decide +kernel
theorem d_Mo_askFor_6 : decode mm_Mo_askFor.2.1 6 = .ok (.getfield 340, 3) := by decide +kernel
theorem d_Mo_askFor_9 : decode mm_Mo_askFor.2.1 9 = .ok (.ifCond .eq 9, 3) := by decide +kernel
theorem d_Mo_askFor_12 : decode mm_Mo_askFor.2.1 12 = .ok (.ldc_w 339, 3) := by decide +kernel
theorem d_Mo_askFor_15 : decode mm_Mo_askFor.2.1 15 = .ok (.goto 7, 3) := by decide +kernel
theorem d_Mo_askFor_18 : decode mm_Mo_askFor.2.1 18 = .ok (.aload_n 0, 1) := by decide +kernel
theorem d_Mo_askFor_19 : decode mm_Mo_askFor.2.1 19 = .ok (.getfield 346, 3) := by decide +kernel
theorem d_Mo_askFor_22 : decode mm_Mo_askFor.2.1 22 = .ok (.iconst (-1), 1) := by decide +kernel
theorem d_Mo_askFor_23 : decode mm_Mo_askFor.2.1 23 = .ok (.invokevirtual 353, 3) := by decide +kernel
theorem d_Mo_askFor_26 : decode mm_Mo_askFor.2.1 26 = .ok (.sipush 213, 3) := by decide +kernel
theorem d_Mo_askFor_29 : decode mm_Mo_askFor.2.1 29 = .ok (.if_icmp .ne 7, 3) := by decide +kernel
theorem d_Mo_askFor_32 : decode mm_Mo_askFor.2.1 32 = .ok (.iconst 1, 1) := by decide +kernel
theorem d_Mo_askFor_33 : decode mm_Mo_askFor.2.1 33 = .ok (.goto 4, 3) := by decide +kernel
theorem d_Mo_askFor_36 : decode mm_Mo_askFor.2.1 36 = .ok (.iconst 0, 1) := by decide +kernel
theorem d_Mo_askFor_37 : decode mm_Mo_askFor.2.1 37 = .ok (.istore_n 1, 1) := by decide +kernel
theorem d_Mo_askFor_38 : decode mm_Mo_askFor.2.1 38 = .ok (.aload_n 0, 1) := by decide +kernel
theorem d_Mo_askFor_39 : decode mm_Mo_askFor.2.1 39 = .ok (.iload_n 1, 1) := by decide +kernel
theorem d_Mo_askFor_40 : decode mm_Mo_askFor.2.1 40 = .ok (.ifCond .eq 10, 3) := by decide +kernel
theorem d_Mo_askFor_43 : decode mm_Mo_askFor.2.1 43 = .ok (.aload_n 0, 1) := by decide +kernel
theorem d_Mo_askFor_44 : decode mm_Mo_askFor.2.1 44 = .ok (.getfield 159, 3) := by decide +kernel
theorem d_Mo_askFor_47 : decode mm_Mo_askFor.2.1 47 = .ok (.goto 4, 3) := by decide +kernel
theorem d_Mo_askFor_50 : decode mm_Mo_askFor.2.1 50 = .ok (.iconst 0, 1) := by decide +kernel
theorem d_Mo_askFor_51 : decode mm_Mo_askFor.2.1 51 = .ok (.putfield 357, 3) := by decide +kernel
theorem d_Mo_askFor_54 : decode mm_Mo_askFor.2.1 54 = .ok (.aload_n 0, 1) := by decide +kernel
theorem d_Mo_askFor_55 : decode mm_Mo_askFor.2.1 55 = .ok (.getfield 340, 3) := by decide +kernel
theorem d_Mo_askFor_58 : decode mm_Mo_askFor.2.1 58 = .ok (.ifCond .ne 9, 3) := by decide +kernel
theorem d_Mo_askFor_61 : decode mm_Mo_askFor.2.1 61 = .ok (.iload_n 1, 1) := by decide +kernel
theorem d_Mo_askFor_62 : decode mm_Mo_askFor.2.1 62 = .ok (.ifCond .ne 5, 3) := by decide +kernel
theorem d_Mo_askFor_65 : decode mm_Mo_askFor.2.1 65 = .ok (.iconst 5, 1) := by decide +kernel
theorem d_Mo_askFor_66 : decode mm_Mo_askFor.2.1 66 = .ok (.ireturn, 1) := by decide +kernel
theorem d_Mo_askFor_67 : decode mm_Mo_askFor.2.1 67 = .ok (.aload_n 0, 1) := by decide +kernel
theorem d_Mo_askFor_68 : decode mm_Mo_askFor.2.1 68 = .ok (.getfield 340, 3) := by decide +kernel
theorem d_Mo_askFor_71 : decode mm_Mo_askFor.2.1 71 = .ok (.ifCond .eq 10, 3) := by decide +kernel
theorem d_Mo_askFor_74 : decode mm_Mo_askFor.2.1 74 = .ok (.aload_n 0, 1) := by decide +kernel
theorem d_Mo_askFor_75 : decode mm_Mo_askFor.2.1 75 = .ok (.getfield 357, 3) := by decide +kernel
theorem d_Mo_askFor_78 : decode mm_Mo_askFor.2.1 78 = .ok (.goto 12, 3) := by decide +kernel
theorem d_Mo_askFor_81 : decode mm_Mo_askFor.2.1 81 = .ok (.aload_n 0, 1) := by decide +kernel
theorem d_Mo_askFor_82 : decode mm_Mo_askFor.2.1 82 = .ok (.getfield 116, 3) := by decide +kernel
theorem d_Mo_askFor_85 : decode mm_Mo_askFor.2.1 85 = .ok (.aload_n 0, 1) := by decide +kernel
theorem d_Mo_askFor_86 : decode mm_Mo_askFor.2.1 86 = .ok (.getfield 343, 3) := by decide +kernel
theorem d_Mo_askFor_89 : decode mm_Mo_askFor.2.1 89 = .ok (.iaload, 1) := by decide +kernel
theorem d_Mo_askFor_90 : decode mm_Mo_askFor.2.1 90 = .ok (.istore_n 2, 1) := by decide +kernel
theorem d_Mo_askFor_91 : decode mm_Mo_askFor.2.1 91 = .ok (.aload_n 0, 1) := by decide +kernel
theorem d_Mo_askFor_92 : decode mm_Mo_askFor.2.1 92 = .ok (.getfield 340, 3) := by decide +kernel
theorem d_Mo_askFor_95 : decode mm_Mo_askFor.2.1 95 = .ok (.ifCond .eq 34, 3) := by decide +kernel
theorem d_Mo_askFor_98 : decode mm_Mo_askFor.2.1 98 = .ok (.aload_n 0, 1) := by decide +kernel
theorem d_Mo_askFor_99 : decode mm_Mo_askFor.2.1 99 = .ok (.getfield 357, 3) := by decide +kernel
theorem d_Mo_askFor_102 : decode mm_Mo_askFor.2.1 102 = .ok (.aload_n 0, 1) := by decide +kernel
theorem d_Mo_askFor_103 : decode mm_Mo_askFor.2.1 103 = .ok (.getfield 116, 3) := by decide +kernel
theorem d_Mo_askFor_106 : decode mm_Mo_askFor.2.1 106 = .ok (.aload_n 0, 1) := by decide +kernel
theorem d_Mo_askFor_107 : decode mm_Mo_askFor.2.1 107 = .ok (.getfield 343, 3) := by decide +kernel
theorem d_Mo_askFor_110 : decode mm_Mo_askFor.2.1 110 = .ok (.iaload, 1) := by decide +kernel
theorem d_Mo_askFor_111 : decode mm_Mo_askFor.2.1 111 = .ok (.if_icmp .le 18, 3) := by decide +kernel
theorem d_Mo_askFor_114 : decode mm_Mo_askFor.2.1 114 = .ok (.aload_n 0, 1) := by decide +kernel
theorem d_Mo_askFor_115 : decode mm_Mo_askFor.2.1 115 = .ok (.bipush 17, 2) := by decide +kernel
theorem d_Mo_askFor_117 : decode mm_Mo_askFor.2.1 117 = .ok (.bipush 47, 2) := by decide +kernel
theorem d_Mo_askFor_119 : decode mm_Mo_askFor.2.1 119 = .ok (.ldc_w 339, 3) := by decide +kernel
theorem d_Mo_askFor_122 : decode mm_Mo_askFor.2.1 122 = .ok (.iconst (-1), 1) := by decide +kernel
theorem d_Mo_askFor_123 : decode mm_Mo_askFor.2.1 123 = .ok (.invokevirtual 353, 3) := by decide +kernel
theorem d_Mo_askFor_126 : decode mm_Mo_askFor.2.1 126 = .ok (.istore_n 2, 1) := by decide +kernel
theorem d_Mo_askFor_127 : decode mm_Mo_askFor.2.1 127 = .ok (.iconst 0, 1) := by decide +kernel
theorem d_Mo_askFor_128 : decode mm_Mo_askFor.2.1 128 = .ok (.istore_n 2, 1) := by decide +kernel
theorem d_Mo_askFor_129 : decode mm_Mo_askFor.2.1 129 = .ok (.aload_n 0, 1) := by decide +kernel
theorem d_Mo_askFor_130 : decode mm_Mo_askFor.2.1 130 = .ok (.getfield 340, 3) := by decide +kernel
theorem d_Mo_askFor_133 : decode mm_Mo_askFor.2.1 133 = .ok (.ifCond .ne 31, 3) := by decide +kernel
theorem d_Mo_askFor_136 : decode mm_Mo_askFor.2.1 136 = .ok (.aload_n 0, 1) := by decide +kernel
theorem d_Mo_askFor_137 : decode mm_Mo_askFor.2.1 137 = .ok (.getfield 116, 3) := by decide +kernel
theorem d_Mo_askFor_140 : decode mm_Mo_askFor.2.1 140 = .ok (.aload_n 0, 1) := by decide +kernel
theorem d_Mo_askFor_141 : decode mm_Mo_askFor.2.1 141 = .ok (.getfield 343, 3) := by decide +kernel
theorem d_Mo_askFor_144 : decode mm_Mo_askFor.2.1 144 = .ok (.iaload, 1) := by decide +kernel
theorem d_Mo_askFor_145 : decode mm_Mo_askFor.2.1 145 = .ok (.aload_n 0, 1) := by decide +kernel
theorem d_Mo_askFor_146 : decode mm_Mo_askFor.2.1 146 = .ok (.getfield 357, 3) := by decide +kernel
theorem d_Mo_askFor_149 : decode mm_Mo_askFor.2.1 149 = .ok (.if_icmp .le 15, 3) := by decide +kernel
theorem d_Mo_askFor_152 : decode mm_Mo_askFor.2.1 152 = .ok (.aload_n 0, 1) := by decide +kernel
theorem d_Mo_askFor_153 : decode mm_Mo_askFor.2.1 153 = .ok (.getfield 116, 3) := by decide +kernel
theorem d_Mo_askFor_156 : decode mm_Mo_askFor.2.1 156 = .ok (.aload_n 0, 1) := by decide +kernel
theorem d_Mo_askFor_157 : decode mm_Mo_askFor.2.1 157 = .ok (.getfield 343, 3) := by decide +kernel
theorem d_Mo_askFor_160 : decode mm_Mo_askFor.2.1 160 = .ok (.iconst 0, 1) := by decide +kernel
theorem d_Mo_askFor_161 : decode mm_Mo_askFor.2.1 161 = .ok (.iastore, 1) := by decide +kernel
theorem d_Mo_askFor_162 : decode mm_Mo_askFor.2.1 162 = .ok (.iconst 0, 1) := by decide +kernel
theorem d_Mo_askFor_163 : decode mm_Mo_askFor.2.1 163 = .ok (.istore_n 2, 1) := by decide +kernel
theorem d_Mo_askFor_164 : decode mm_Mo_askFor.2.1 164 = .ok (.aload_n 0, 1) := by decide +kernel
theorem d_Mo_askFor_165 : decode mm_Mo_askFor.2.1 165 = .ok (.bipush 11, 2) := by decide +kernel
theorem d_Mo_askFor_167 : decode mm_Mo_askFor.2.1 167 = .ok (.iconst 0, 1) := by decide +kernel
theorem d_Mo_askFor_168 : decode mm_Mo_askFor.2.1 168 = .ok (.iconst 0, 1) := by decide +kernel
theorem d_Mo_askFor_169 : decode mm_Mo_askFor.2.1 169 = .ok (.iload_n 2, 1) := by decide +kernel
theorem d_Mo_askFor_170 : decode mm_Mo_askFor.2.1 170 = .ok (.invokevirtual 353, 3) := by decide +kernel
theorem d_Mo_askFor_173 : decode mm_Mo_askFor.2.1 173 = .ok (.istore_n 3, 1) := by decide +kernel
theorem d_Mo_askFor_174 : decode mm_Mo_askFor.2.1 174 = .ok (.aload_n 0, 1) := by decide +kernel
theorem d_Mo_askFor_175 : decode mm_Mo_askFor.2.1 175 = .ok (.getfield 340, 3) := by decide +kernel
theorem d_Mo_askFor_178 : decode mm_Mo_askFor.2.1 178 = .ok (.ifCond .eq 18, 3) := by decide +kernel
theorem d_Mo_askFor_181 : decode mm_Mo_askFor.2.1 181 = .ok (.aload_n 0, 1) := by decide +kernel
theorem d_Mo_askFor_182 : decode mm_Mo_askFor.2.1 182 = .ok (.bipush 13, 2) := by decide +kernel
theorem d_Mo_askFor_184 : decode mm_Mo_askFor.2.1 184 = .ok (.bipush 47, 2) := by decide +kernel
theorem d_Mo_askFor_186 : decode mm_Mo_askFor.2.1 186 = .ok (.ldc_w 339, 3) := by decide +kernel
theorem d_Mo_askFor_189 : decode mm_Mo_askFor.2.1 189 = .ok (.iconst (-1), 1) := by decide +kernel
theorem d_Mo_askFor_190 : decode mm_Mo_askFor.2.1 190 = .ok (.invokevirtual 353, 3) := by decide +kernel
theorem d_Mo_askFor_193 : decode mm_Mo_askFor.2.1 193 = .ok (.goto 16, 3) := by decide +kernel
theorem d_Mo_askFor_196 : decode mm_Mo_askFor.2.1 196 = .ok (.aload_n 0, 1) := by decide +kernel
theorem d_Mo_askFor_197 : decode mm_Mo_askFor.2.1 197 = .ok (.bipush 12, 2) := by decide +kernel
theorem d_Mo_askFor_199 : decode mm_Mo_askFor.2.1 199 = .ok (.bipush 47, 2) := by decide +kernel
theorem d_Mo_askFor_201 : decode mm_Mo_askFor.2.1 201 = .ok (.aload_n 0, 1) := by decide +kernel
theorem d_Mo_askFor_202 : decode mm_Mo_askFor.2.1 202 = .ok (.getfield 346, 3) := by decide +kernel
theorem d_Mo_askFor_205 : decode mm_Mo_askFor.2.1 205 = .ok (.iconst (-1), 1) := by decide +kernel
theorem d_Mo_askFor_206 : decode mm_Mo_askFor.2.1 206 = .ok (.invokevirtual 353, 3) := by decide +kernel
theorem d_Mo_askFor_209 : decode mm_Mo_askFor.2.1 209 = .ok (.istore_n 3, 1) := by decide +kernel
theorem d_Mo_askFor_210 : decode mm_Mo_askFor.2.1 210 = .ok (.iload_n 3, 1) := by decide +kernel
theorem d_Mo_askFor_211 : decode mm_Mo_askFor.2.1 211 = .ok (.sipush 150, 3) := by decide +kernel
theorem d_Mo_askFor_214 : decode mm_Mo_askFor.2.1 214 = .ok (.if_icmp .ne 7, 3) := by decide +kernel
theorem d_Mo_askFor_217 : decode mm_Mo_askFor.2.1 217 = .ok (.iconst 2, 1) := by decide +kernel
theorem d_Mo_askFor_218 : decode mm_Mo_askFor.2.1 218 = .ok (.goto 4, 3) := by decide +kernel
theorem d_Mo_askFor_221 : decode mm_Mo_askFor.2.1 221 = .ok (.iconst 5, 1) := by decide +kernel
theorem d_Mo_askFor_222 : decode mm_Mo_askFor.2.1 222 = .ok (.ireturn, 1) := by decide +kernel
def wp_Mo_askFor_164   (K : Int32 → MzM → Prop) (y2 : Int32) (M : MzM) : Prop := wp_Mo_say  (11 : Int32) (0 : Int32) (0 : Int32) y2 M (fun v41 M38 => (((mz_i M38 (30, 0) 39) = 0 → wp_Mo_say  (12 : Int32) (47 : Int32) (mz_i M38 (30, 0) 41) (-1 : Int32) M38 (fun v45 M42 => ((¬ v45 = (150 : Int32) → K (5 : Int32) M42) ∧ (v45 = (150 : Int32) → K (2 : Int32) M42)))) ∧ (¬ (mz_i M38 (30, 0) 39) = 0 → wp_Mo_say  (13 : Int32) (47 : Int32) (1849076 : Int32) (-1 : Int32) M38 (fun v50 M47 => ((¬ v50 = (150 : Int32) → K (5 : Int32) M47) ∧ (v50 = (150 : Int32) → K (2 : Int32) M47))))))
def wp_Mo_askFor_129   (K : Int32 → MzM → Prop) (y2 : Int32) (M : MzM) : Prop := ((¬ (mz_i M (30, 0) 39) = 0 → wp_Mo_askFor_164   K y2 M) ∧ ((mz_i M (30, 0) 39) = 0 → (∃ j26 : Nat, (mz_i M (30, 0) 40).toInt = (j26 : Int) ∧ j26 < 3 ∧ (((mz_i M (59, 0) j26) ≤ (mz_i M (30, 0) 44) → wp_Mo_askFor_164   K y2 M) ∧ (¬ (mz_i M (59, 0) j26) ≤ (mz_i M (30, 0) 44) → (∃ j33 : Nat, (mz_i M (30, 0) 40).toInt = (j33 : Int) ∧ j33 < 3 ∧ ∀ M30 : MzM, M30 = mz_si M (59, 0) j33 (0 : Int32) → wp_Mo_askFor_164   K (0 : Int32) M30))))))
def wp_Mo_askFor_90   (K : Int32 → MzM → Prop) (ys0 : Int32) (M : MzM) : Prop := (((mz_i M (30, 0) 39) = 0 → wp_Mo_askFor_129   K ys0 M) ∧ (¬ (mz_i M (30, 0) 39) = 0 → (∃ j16 : Nat, (mz_i M (30, 0) 40).toInt = (j16 : Int) ∧ j16 < 3 ∧ (((mz_i M (30, 0) 44) ≤ (mz_i M (59, 0) j16) → wp_Mo_askFor_129   K ys0 M) ∧ (¬ (mz_i M (30, 0) 44) ≤ (mz_i M (59, 0) j16) → wp_Mo_say  (17 : Int32) (47 : Int32) (1849076 : Int32) (-1 : Int32) M (fun v23 M20 => wp_Mo_askFor_129   K (0 : Int32) M20))))))
def wp_Mo_askFor_67   (K : Int32 → MzM → Prop)  (M : MzM) : Prop := (((mz_i M (30, 0) 39) = 0 → (∃ j11 : Nat, (mz_i M (30, 0) 40).toInt = (j11 : Int) ∧ j11 < 3 ∧ wp_Mo_askFor_90   K (mz_i M (59, 0) j11) M)) ∧ (¬ (mz_i M (30, 0) 39) = 0 → wp_Mo_askFor_90   K (mz_i M (30, 0) 44) M))
def wp_Mo_askFor_51   (K : Int32 → MzM → Prop) (y1 : Int32) (ys0 : Int32) (M : MzM) : Prop := (∀ M8 : MzM, M8 = mz_si M (30, 0) 44 ys0 → ((¬ (mz_i M8 (30, 0) 39) = 0 → wp_Mo_askFor_67   K  M8) ∧ ((mz_i M8 (30, 0) 39) = 0 → ((¬ y1 = 0 → wp_Mo_askFor_67   K  M8) ∧ (y1 = 0 → K (5 : Int32) M8)))))
def wp_Mo_askFor_37   (K : Int32 → MzM → Prop) (ys0 : Int32) (M : MzM) : Prop := ((ys0 = 0 → wp_Mo_askFor_51   K ys0 (0 : Int32) M) ∧ (¬ ys0 = 0 → wp_Mo_askFor_51   K ys0 (mz_i M (30, 0) 31) M))
def wp_Mo_askFor_22   (K : Int32 → MzM → Prop) (ys0 : Int32) (ys1 : Int32) (ys2 : Int32) (M : MzM) : Prop := wp_Mo_say  ys2 ys1 ys0 (-1 : Int32) M (fun v5 M2 => ((¬ v5 = (213 : Int32) → wp_Mo_askFor_37   K (0 : Int32) M2) ∧ (v5 = (213 : Int32) → wp_Mo_askFor_37   K (1 : Int32) M2)))
def wp_Mo_askFor   (M : MzM) (K : Int32 → MzM → Prop) : Prop := (((mz_i M (30, 0) 39) = 0 → wp_Mo_askFor_22   K (mz_i M (30, 0) 41) (47 : Int32) (9 : Int32) M) ∧ (¬ (mz_i M (30, 0) 39) = 0 → wp_Mo_askFor_22   K (1849076 : Int32) (47 : Int32) (9 : Int32) M))
theorem tm_Mo_askFor_164 {G : MzG} {B : MzB} {d : Nat} {K : Int32 → MzM → Prop} (hF : mzLive true B)     (y2 : Int32) (M : MzM) (hL : mzLnk true M) (h : wp_Mo_askFor_164   K y2 M) : MzS G B (d + 11) mm_Mo_askFor M (0, 0) (mzK1 true B K) 164 [(0, .ref (mz_ad B (30, 0))), (2, .int y2)] [] := by
  unfold wp_Mo_askFor_164 at h
  exact (mz_aload_n d_Mo_askFor_164 rfl (mz_bipush (11 : Int32) d_Mo_askFor_165 (by decide) (mz_iconst (0 : Int32) d_Mo_askFor_167 (by decide) (mz_iconst (0 : Int32) d_Mo_askFor_168 (by decide) (mz_iload_n d_Mo_askFor_169 rfl (mz_callV (As := [.int (11 : Int32), .int (0 : Int32), .int (0 : Int32), .int y2]) (st := []) (hF 30 0 rfl (by decide)) rfl (mzClOf cl_10) 0 0 d_Mo_askFor_170 cs_Mo_say wl_Mo_353 wi_Mo_say wse_Mo_say (Nat.le_of_ble_eq_true rfl) (Nat.zero_le _) (Nat.zero_le _) (MzC.mono (tm_Mo_say (d := d) hF  hL h) (fun r9 B9 M38 hq40 => by obtain ⟨rfl, hL39, v41, rfl, hq40⟩ := hq40; exact ⟨_, rfl, (mz_istore_n d_Mo_askFor_173 (by decide) (mz_aload_n d_Mo_askFor_174 rfl (mz_getI (k := 39) cl_10 d_Mo_askFor_175 (by decide) wf_Mo_340 rfl (hF 30 0 rfl (by decide)) rfl (mz_if_eq 196 d_Mo_askFor_178 rfl (fun hc52 => (mz_aload_n d_Mo_askFor_196 rfl (mz_bipush (12 : Int32) d_Mo_askFor_197 (by decide) (mz_bipush (47 : Int32) d_Mo_askFor_199 (by decide) (mz_aload_n d_Mo_askFor_201 rfl (mz_getI (k := 41) cl_10 d_Mo_askFor_202 (by decide) wf_Mo_346 rfl (hF 30 0 rfl (by decide)) rfl (mz_iconst (-1 : Int32) d_Mo_askFor_205 (by decide) (mz_callV (As := [.int (12 : Int32), .int (47 : Int32), .int (mz_i M38 (30, 0) 41), .int (-1 : Int32)]) (st := []) (hF 30 0 rfl (by decide)) rfl (mzClOf cl_10) 0 0 d_Mo_askFor_206 cs_Mo_say wl_Mo_353 wi_Mo_say wse_Mo_say (Nat.le_of_ble_eq_true rfl) (Nat.zero_le _) (Nat.zero_le _) (MzC.mono (tm_Mo_say (d := d) hF  hL39 (hq40.1 hc52)) (fun r9 B9 M42 hq44 => by obtain ⟨rfl, hL43, v45, rfl, hq44⟩ := hq44; exact ⟨_, rfl, (mz_istore_n d_Mo_askFor_209 (by decide) (mz_iload_n d_Mo_askFor_210 rfl (mz_sipush (150 : Int32) d_Mo_askFor_211 (by decide) (mz_icmp_ne 221 d_Mo_askFor_214 rfl (fun hc46 => (mz_iconst (5 : Int32) d_Mo_askFor_221 (by decide) (mz_iret .int d_Mo_askFor_222 rfl rfl ⟨rfl, hL43, _, rfl, (hq44.1 hc46)⟩))) (fun hc46 => (mz_iconst (2 : Int32) d_Mo_askFor_217 (by decide) (mz_goto 222 d_Mo_askFor_218 rfl (mz_iret .int d_Mo_askFor_222 rfl rfl ⟨rfl, hL43, _, rfl, (hq44.2 hc46)⟩))))))))⟩)))))))))) (fun hc52 => (mz_aload_n d_Mo_askFor_181 rfl (mz_bipush (13 : Int32) d_Mo_askFor_182 (by decide) (mz_bipush (47 : Int32) d_Mo_askFor_184 (by decide) (mz_ldcw (v := (1849076 : Int32)) d_Mo_askFor_186 wk_Mo_339 (mz_iconst (-1 : Int32) d_Mo_askFor_189 (by decide) (mz_callV (As := [.int (13 : Int32), .int (47 : Int32), .int (1849076 : Int32), .int (-1 : Int32)]) (st := []) (hF 30 0 rfl (by decide)) rfl (mzClOf cl_10) 0 0 d_Mo_askFor_190 cs_Mo_say wl_Mo_353 wi_Mo_say wse_Mo_say (Nat.le_of_ble_eq_true rfl) (Nat.zero_le _) (Nat.zero_le _) (MzC.mono (tm_Mo_say (d := d) hF  hL39 (hq40.2 hc52)) (fun r9 B9 M47 hq49 => by obtain ⟨rfl, hL48, v50, rfl, hq49⟩ := hq49; exact ⟨_, rfl, (mz_goto 209 d_Mo_askFor_193 rfl (mz_istore_n d_Mo_askFor_209 (by decide) (mz_iload_n d_Mo_askFor_210 rfl (mz_sipush (150 : Int32) d_Mo_askFor_211 (by decide) (mz_icmp_ne 221 d_Mo_askFor_214 rfl (fun hc51 => (mz_iconst (5 : Int32) d_Mo_askFor_221 (by decide) (mz_iret .int d_Mo_askFor_222 rfl rfl ⟨rfl, hL48, _, rfl, (hq49.1 hc51)⟩))) (fun hc51 => (mz_iconst (2 : Int32) d_Mo_askFor_217 (by decide) (mz_goto 222 d_Mo_askFor_218 rfl (mz_iret .int d_Mo_askFor_222 rfl rfl ⟨rfl, hL48, _, rfl, (hq49.2 hc51)⟩)))))))))⟩)))))))))))))⟩))))))))
theorem tm_Mo_askFor_129 {G : MzG} {B : MzB} {d : Nat} {K : Int32 → MzM → Prop} (hF : mzLive true B)     (y2 : Int32) (M : MzM) (hL : mzLnk true M) (h : wp_Mo_askFor_129   K y2 M) : MzS G B (d + 11) mm_Mo_askFor M (0, 0) (mzK1 true B K) 129 [(0, .ref (mz_ad B (30, 0))), (2, .int y2)] [] := by
  unfold wp_Mo_askFor_129 at h
  exact (mz_aload_n d_Mo_askFor_129 rfl (mz_getI (k := 39) cl_10 d_Mo_askFor_130 (by decide) wf_Mo_340 rfl (hF 30 0 rfl (by decide)) rfl (mz_if_ne 164 d_Mo_askFor_133 rfl (fun hc37 => (MzS.loc [(0, .ref (mz_ad B (30, 0))), (2, .int y2)] ⟨rfl, rfl, trivial⟩ (tm_Mo_askFor_164 hF   y2 M hL (h.1 hc37)))) (fun hc37 => (mz_aload_n d_Mo_askFor_136 rfl (mz_getR (k := 36) (a := (59, 0)) cl_10 d_Mo_askFor_137 (by decide) wf_Mo_116 rfl (hF 30 0 rfl (by decide)) rfl (hL (30, 0) 36 (59, 0) rfl rfl (by decide)) (mz_aload_n d_Mo_askFor_140 rfl (mz_getI (k := 40) cl_10 d_Mo_askFor_141 (by decide) wf_Mo_343 rfl (hF 30 0 rfl (by decide)) rfl (match (h.2 hc37) with | ⟨j26, h27, h28, h29⟩ => mz_iald j26 d_Mo_askFor_144 (hF 59 0 rfl (by decide)) rfl h27 h28 (mz_aload_n d_Mo_askFor_145 rfl (mz_getI (k := 44) cl_10 d_Mo_askFor_146 (by decide) wf_Mo_357 rfl (hF 30 0 rfl (by decide)) rfl (mz_icmp_le 164 d_Mo_askFor_149 rfl (fun hc36 => (MzS.loc [(0, .ref (mz_ad B (30, 0))), (2, .int y2)] ⟨rfl, rfl, trivial⟩ (tm_Mo_askFor_164 hF   y2 M hL (h29.1 hc36)))) (fun hc36 => (mz_aload_n d_Mo_askFor_152 rfl (mz_getR (k := 36) (a := (59, 0)) cl_10 d_Mo_askFor_153 (by decide) wf_Mo_116 rfl (hF 30 0 rfl (by decide)) rfl (hL (30, 0) 36 (59, 0) rfl rfl (by decide)) (mz_aload_n d_Mo_askFor_156 rfl (mz_getI (k := 40) cl_10 d_Mo_askFor_157 (by decide) wf_Mo_343 rfl (hF 30 0 rfl (by decide)) rfl (mz_iconst (0 : Int32) d_Mo_askFor_160 (by decide) (match (h29.2 hc36) with | ⟨j33, h34, h35, h32⟩ => mz_iast j33 d_Mo_askFor_161 (hF 59 0 rfl (by decide)) rfl h34 h35 (let M30 : MzM := mz_si M (59, 0) j33 (0 : Int32); (mz_iconst (0 : Int32) d_Mo_askFor_162 (by decide) (mz_istore_n d_Mo_askFor_163 (by decide) (MzS.loc [(0, .ref (mz_ad B (30, 0))), (2, .int (0 : Int32))] ⟨rfl, rfl, trivial⟩ (tm_Mo_askFor_164 hF   (0 : Int32) M30 hL (h32 M30 rfl)))))))))))))))))))))))))
theorem tm_Mo_askFor_90 {G : MzG} {B : MzB} {d : Nat} {K : Int32 → MzM → Prop} (hF : mzLive true B)     (ys0 : Int32) (M : MzM) (hL : mzLnk true M) (h : wp_Mo_askFor_90   K ys0 M) : MzS G B (d + 11) mm_Mo_askFor M (0, 0) (mzK1 true B K) 90 [(0, .ref (mz_ad B (30, 0)))] [.int ys0] := by
  unfold wp_Mo_askFor_90 at h
  exact (mz_istore_n d_Mo_askFor_90 (by decide) (mz_aload_n d_Mo_askFor_91 rfl (mz_getI (k := 39) cl_10 d_Mo_askFor_92 (by decide) wf_Mo_340 rfl (hF 30 0 rfl (by decide)) rfl (mz_if_eq 129 d_Mo_askFor_95 rfl (fun hc25 => (MzS.loc [(0, .ref (mz_ad B (30, 0))), (2, .int ys0)] ⟨rfl, rfl, trivial⟩ (tm_Mo_askFor_129 hF   ys0 M hL (h.1 hc25)))) (fun hc25 => (mz_aload_n d_Mo_askFor_98 rfl (mz_getI (k := 44) cl_10 d_Mo_askFor_99 (by decide) wf_Mo_357 rfl (hF 30 0 rfl (by decide)) rfl (mz_aload_n d_Mo_askFor_102 rfl (mz_getR (k := 36) (a := (59, 0)) cl_10 d_Mo_askFor_103 (by decide) wf_Mo_116 rfl (hF 30 0 rfl (by decide)) rfl (hL (30, 0) 36 (59, 0) rfl rfl (by decide)) (mz_aload_n d_Mo_askFor_106 rfl (mz_getI (k := 40) cl_10 d_Mo_askFor_107 (by decide) wf_Mo_343 rfl (hF 30 0 rfl (by decide)) rfl (match (h.2 hc25) with | ⟨j16, h17, h18, h19⟩ => mz_iald j16 d_Mo_askFor_110 (hF 59 0 rfl (by decide)) rfl h17 h18 (mz_icmp_le 129 d_Mo_askFor_111 rfl (fun hc24 => (MzS.loc [(0, .ref (mz_ad B (30, 0))), (2, .int ys0)] ⟨rfl, rfl, trivial⟩ (tm_Mo_askFor_129 hF   ys0 M hL (h19.1 hc24)))) (fun hc24 => (mz_aload_n d_Mo_askFor_114 rfl (mz_bipush (17 : Int32) d_Mo_askFor_115 (by decide) (mz_bipush (47 : Int32) d_Mo_askFor_117 (by decide) (mz_ldcw (v := (1849076 : Int32)) d_Mo_askFor_119 wk_Mo_339 (mz_iconst (-1 : Int32) d_Mo_askFor_122 (by decide) (mz_callV (As := [.int (17 : Int32), .int (47 : Int32), .int (1849076 : Int32), .int (-1 : Int32)]) (st := []) (hF 30 0 rfl (by decide)) rfl (mzClOf cl_10) 0 0 d_Mo_askFor_123 cs_Mo_say wl_Mo_353 wi_Mo_say wse_Mo_say (Nat.le_of_ble_eq_true rfl) (Nat.zero_le _) (Nat.zero_le _) (MzC.mono (tm_Mo_say (d := d) hF  hL (h19.2 hc24)) (fun r9 B9 M20 hq22 => by obtain ⟨rfl, hL21, v23, rfl, hq22⟩ := hq22; exact ⟨_, rfl, (mz_istore_n d_Mo_askFor_126 (by decide) (mz_iconst (0 : Int32) d_Mo_askFor_127 (by decide) (mz_istore_n d_Mo_askFor_128 (by decide) (MzS.loc [(0, .ref (mz_ad B (30, 0))), (2, .int (0 : Int32))] ⟨rfl, rfl, trivial⟩ (tm_Mo_askFor_129 hF   (0 : Int32) M20 hL21 hq22)))))⟩))))))))))))))))))))))
theorem tm_Mo_askFor_67 {G : MzG} {B : MzB} {d : Nat} {K : Int32 → MzM → Prop} (hF : mzLive true B)      (M : MzM) (hL : mzLnk true M) (h : wp_Mo_askFor_67   K  M) : MzS G B (d + 11) mm_Mo_askFor M (0, 0) (mzK1 true B K) 67 [(0, .ref (mz_ad B (30, 0)))] [] := by
  unfold wp_Mo_askFor_67 at h
  exact (mz_aload_n d_Mo_askFor_67 rfl (mz_getI (k := 39) cl_10 d_Mo_askFor_68 (by decide) wf_Mo_340 rfl (hF 30 0 rfl (by decide)) rfl (mz_if_eq 81 d_Mo_askFor_71 rfl (fun hc15 => (mz_aload_n d_Mo_askFor_81 rfl (mz_getR (k := 36) (a := (59, 0)) cl_10 d_Mo_askFor_82 (by decide) wf_Mo_116 rfl (hF 30 0 rfl (by decide)) rfl (hL (30, 0) 36 (59, 0) rfl rfl (by decide)) (mz_aload_n d_Mo_askFor_85 rfl (mz_getI (k := 40) cl_10 d_Mo_askFor_86 (by decide) wf_Mo_343 rfl (hF 30 0 rfl (by decide)) rfl (match (h.1 hc15) with | ⟨j11, h12, h13, h14⟩ => mz_iald j11 d_Mo_askFor_89 (hF 59 0 rfl (by decide)) rfl h12 h13 (MzS.loc [(0, .ref (mz_ad B (30, 0)))] ⟨rfl, trivial⟩ (tm_Mo_askFor_90 hF   (mz_i M (59, 0) j11) M hL h14)))))))) (fun hc15 => (mz_aload_n d_Mo_askFor_74 rfl (mz_getI (k := 44) cl_10 d_Mo_askFor_75 (by decide) wf_Mo_357 rfl (hF 30 0 rfl (by decide)) rfl (mz_goto 90 d_Mo_askFor_78 rfl (MzS.loc [(0, .ref (mz_ad B (30, 0)))] ⟨rfl, trivial⟩ (tm_Mo_askFor_90 hF   (mz_i M (30, 0) 44) M hL (h.2 hc15))))))))))
theorem tm_Mo_askFor_51 {G : MzG} {B : MzB} {d : Nat} {K : Int32 → MzM → Prop} (hF : mzLive true B)     (y1 : Int32) (ys0 : Int32) (M : MzM) (hL : mzLnk true M) (h : wp_Mo_askFor_51   K y1 ys0 M) : MzS G B (d + 11) mm_Mo_askFor M (0, 0) (mzK1 true B K) 51 [(0, .ref (mz_ad B (30, 0))), (1, .int y1)] [.int ys0, .ref (mz_ad B (30, 0))] := by
  unfold wp_Mo_askFor_51 at h
  exact (mz_putI (k := 44) cl_10 d_Mo_askFor_51 (by decide) wf_Mo_357 rfl rfl rfl rfl (hF 30 0 rfl (by decide)) rfl (let M8 : MzM := mz_si M (30, 0) 44 ys0; (mz_aload_n d_Mo_askFor_54 rfl (mz_getI (k := 39) cl_10 d_Mo_askFor_55 (by decide) wf_Mo_340 rfl (hF 30 0 rfl (by decide)) rfl (mz_if_ne 67 d_Mo_askFor_58 rfl (fun hc10 => (MzS.loc [(0, .ref (mz_ad B (30, 0)))] ⟨rfl, trivial⟩ (tm_Mo_askFor_67 hF    M8 hL ((h M8 rfl).1 hc10)))) (fun hc10 => (mz_iload_n d_Mo_askFor_61 rfl (mz_if_ne 67 d_Mo_askFor_62 rfl (fun hc9 => (MzS.loc [(0, .ref (mz_ad B (30, 0)))] ⟨rfl, trivial⟩ (tm_Mo_askFor_67 hF    M8 hL (((h M8 rfl).2 hc10).1 hc9)))) (fun hc9 => (mz_iconst (5 : Int32) d_Mo_askFor_65 (by decide) (mz_iret .int d_Mo_askFor_66 rfl rfl ⟨rfl, hL, _, rfl, (((h M8 rfl).2 hc10).2 hc9)⟩)))))))))))
theorem tm_Mo_askFor_37 {G : MzG} {B : MzB} {d : Nat} {K : Int32 → MzM → Prop} (hF : mzLive true B)     (ys0 : Int32) (M : MzM) (hL : mzLnk true M) (h : wp_Mo_askFor_37   K ys0 M) : MzS G B (d + 11) mm_Mo_askFor M (0, 0) (mzK1 true B K) 37 [(0, .ref (mz_ad B (30, 0)))] [.int ys0] := by
  unfold wp_Mo_askFor_37 at h
  exact (mz_istore_n d_Mo_askFor_37 (by decide) (mz_aload_n d_Mo_askFor_38 rfl (mz_iload_n d_Mo_askFor_39 rfl (mz_if_eq 50 d_Mo_askFor_40 rfl (fun hc7 => (mz_iconst (0 : Int32) d_Mo_askFor_50 (by decide) (MzS.loc [(0, .ref (mz_ad B (30, 0))), (1, .int ys0)] ⟨rfl, rfl, trivial⟩ (tm_Mo_askFor_51 hF   ys0 (0 : Int32) M hL (h.1 hc7))))) (fun hc7 => (mz_aload_n d_Mo_askFor_43 rfl (mz_getI (k := 31) cl_10 d_Mo_askFor_44 (by decide) wf_Mo_159 rfl (hF 30 0 rfl (by decide)) rfl (mz_goto 51 d_Mo_askFor_47 rfl (MzS.loc [(0, .ref (mz_ad B (30, 0))), (1, .int ys0)] ⟨rfl, rfl, trivial⟩ (tm_Mo_askFor_51 hF   ys0 (mz_i M (30, 0) 31) M hL (h.2 hc7)))))))))))
theorem tm_Mo_askFor_22 {G : MzG} {B : MzB} {d : Nat} {K : Int32 → MzM → Prop} (hF : mzLive true B)     (ys0 : Int32) (ys1 : Int32) (ys2 : Int32) (M : MzM) (hL : mzLnk true M) (h : wp_Mo_askFor_22   K ys0 ys1 ys2 M) : MzS G B (d + 11) mm_Mo_askFor M (0, 0) (mzK1 true B K) 22 [(0, .ref (mz_ad B (30, 0)))] [.int ys0, .int ys1, .int ys2, .ref (mz_ad B (30, 0))] := by
  unfold wp_Mo_askFor_22 at h
  exact (mz_iconst (-1 : Int32) d_Mo_askFor_22 (by decide) (mz_callV (As := [.int ys2, .int ys1, .int ys0, .int (-1 : Int32)]) (st := []) (hF 30 0 rfl (by decide)) rfl (mzClOf cl_10) 0 0 d_Mo_askFor_23 cs_Mo_say wl_Mo_353 wi_Mo_say wse_Mo_say (Nat.le_of_ble_eq_true rfl) (Nat.zero_le _) (Nat.zero_le _) (MzC.mono (tm_Mo_say (d := d) hF  hL h) (fun r9 B9 M2 hq4 => by obtain ⟨rfl, hL3, v5, rfl, hq4⟩ := hq4; exact ⟨_, rfl, (mz_sipush (213 : Int32) d_Mo_askFor_26 (by decide) (mz_icmp_ne 36 d_Mo_askFor_29 rfl (fun hc6 => (mz_iconst (0 : Int32) d_Mo_askFor_36 (by decide) (MzS.loc [(0, .ref (mz_ad B (30, 0)))] ⟨rfl, trivial⟩ (tm_Mo_askFor_37 hF   (0 : Int32) M2 hL3 (hq4.1 hc6))))) (fun hc6 => (mz_iconst (1 : Int32) d_Mo_askFor_32 (by decide) (mz_goto 37 d_Mo_askFor_33 rfl (MzS.loc [(0, .ref (mz_ad B (30, 0)))] ⟨rfl, trivial⟩ (tm_Mo_askFor_37 hF   (1 : Int32) M2 hL3 (hq4.2 hc6))))))))⟩))))
theorem tm_Mo_askFor {G : MzG} {B : MzB} {d : Nat} {K : Int32 → MzM → Prop} (hF : mzLive true B)    {M : MzM} (hL : mzLnk true M) (h : wp_Mo_askFor   M K) : MzC G B (d + 11) mm_Mo_askFor [.ref (mz_ad B (30, 0))] M (0, 0) (mzK1 true B K) := by
  unfold wp_Mo_askFor at h
  exact MzC.of rfl (Nat.le_of_ble_eq_true rfl) (show MzS G B (d + 11) mm_Mo_askFor M (0, 0) (mzK1 true B K) 0 [(0, .ref (mz_ad B (30, 0)))] [] from (mz_aload_n d_Mo_askFor_0 rfl (mz_bipush (9 : Int32) d_Mo_askFor_1 (by decide) (mz_bipush (47 : Int32) d_Mo_askFor_3 (by decide) (mz_aload_n d_Mo_askFor_5 rfl (mz_getI (k := 39) cl_10 d_Mo_askFor_6 (by decide) wf_Mo_340 rfl (hF 30 0 rfl (by decide)) rfl (mz_if_eq 18 d_Mo_askFor_9 rfl (fun hc1 => (mz_aload_n d_Mo_askFor_18 rfl (mz_getI (k := 41) cl_10 d_Mo_askFor_19 (by decide) wf_Mo_346 rfl (hF 30 0 rfl (by decide)) rfl (MzS.loc [(0, .ref (mz_ad B (30, 0)))] ⟨rfl, trivial⟩ (tm_Mo_askFor_22 hF   (mz_i M (30, 0) 41) (47 : Int32) (9 : Int32) M hL (h.1 hc1)))))) (fun hc1 => (mz_ldcw (v := (1849076 : Int32)) d_Mo_askFor_12 wk_Mo_339 (mz_goto 22 d_Mo_askFor_15 rfl (MzS.loc [(0, .ref (mz_ad B (30, 0)))] ⟨rfl, trivial⟩ (tm_Mo_askFor_22 hF   (1849076 : Int32) (47 : Int32) (9 : Int32) M hL (h.2 hc1)))))))))))))
