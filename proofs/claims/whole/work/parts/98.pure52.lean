theorem ob_0_2 : obPred 0 2 := by
  intro m1 m2 M L1 L2 fr vd a ss K hE o0 ha hfit hW hD hA hfr hss h hk
  obtain ⟨s1, s2, s3, s4, s5, s6, s7, s8, s9, s10, s11, s12, s13, s14, s15, s16⟩ := hE.1
  have hcl := spc_le (L1 13 0)
  have h30 : (L1 13 0).length ≤ 30 := (h.line 0).2.1
  have sl : spc (L2 43 0) = spc (L1 13 0) := by rw [s3]
  have s0 : ∀ M2 : MzM, A2 M2 (mz_si (nB m2 0 a) (30, 0) 32 (Int32.ofNat (spc (L2 43 0) + 1))) L2 → (mz_i M2 (30, 0) 29).toInt = ((0 : Nat) : Int) := fun M2 h2 => by rw [h2.1 30 29 rfl]; exact ha
  refine ⟨fun z => absurd z (by decide), fun _ => ⟨2, rfl, by decide, fun z => absurd z (by decide), fun z => absurd z (by decide), fun _ => ?_, fun z => absurd z (by decide), fun z => absurd z (by decide), fun z => absurd z (by decide), fun z => absurd z (by decide), fun z => absurd z (by decide), fun z => absurd z (by decide), fun z => absurd z (by decide), fun z => absurd z (by decide), fun n1 n2 n3 n4 n5 n6 n7 n8 n9 n10 n11 => absurd rfl n3⟩⟩
  -- the reference's road to its answer
  have rf : ∀ (M2 : MzM) (K2 : MzM → Prop), (wp_Mo_beginSession (mz_i M2 (30, 0) 29) M2 (fun M4 => wp_Mo_answer 221 M4 (fun M7 => clrK a K2 M7))) → wp_Mo_doLine_255 (clrK a K2) (mz_i m2 (47, 0) 0) (mz_i m2 (48, 0) 0) (mz_i m2 (49, 0) 0) (Int32.ofNat (2 + 1)) (eaI 2) M2 := by
    intro M2 K2 g
    exact ⟨fun z => absurd z (by decide), fun _ => ⟨fun _ => ⟨fun _ => ⟨fun z => absurd rfl z, fun _ => g⟩, fun z => absurd z (by decide)⟩, fun z => absurd z (by decide)⟩⟩
  have none0 : mz_r m1 (16, 0) 4 = none → mz_i m2 (54, 0) 0 = -1 → (mz_i m2 (53, 0) 0 = 2 → mz_i m2 (55, 0) 0 = 0) → wp_Ses_startOver 0 M (fun M13 => ∀ M129 : MzM, M129 = mz_si M13 (8, 0) 16 221 → tl 0 2 K M129) := by
    intro t2 t3 hh
    have hE1 := ee_none_0 hE t3
    refine pl_startOver (mw := wEnd (mz_si (mS m1 0 (spc (L1 13 0)) fr vd) (8, 0) 16 0) 0) (Lw := lu (lu L1 15 0 ss) 17 0 []) (fun K' hk' => pl_way_none h t2 hk') (by decide) s1 (fun M3 h3 => ?_)
    rintro _ rfl
    have ht := h3.si (o := (8, 0)) (k := 16) (v := 221) rfl
    refine pl_forget (v := 221) false false false ht rfl (fg_s (by decide)) (fg_2 (by decide)) (fg_2 (by decide)) (fun M9 h9 => ?_)
    have hEE : EE (fgM (mz_si (soM (wEnd (mz_si (mS m1 0 (spc (L1 13 0)) fr vd) (8, 0) 16 0) 0) 0) (8, 0) 16 221) 0 false false false) (lu (lu (lu L1 15 0 ss) 17 0 []) 13 0 []) (rEnd (bsM (mz_si (nB m2 0 a) (30, 0) 32 (Int32.ofNat (spc (L2 43 0) + 1))) 0) 0) (lu L2 43 0 []) := ⟨⟨s1, s2, rfl, Or.inl ⟨rfl, rfl⟩, rfl, rfl, Or.inl ⟨rfl, rfl⟩, Or.inl ⟨rfl, rfl⟩, ⟨rfl, Or.inl rfl⟩, ⟨rfl, 0, by decide, rfl⟩, ⟨rfl, Or.inl ⟨rfl, rfl⟩⟩, ⟨rfl, Or.inl rfl⟩, rfl, rfl, rfl, Or.inl ⟨rfl, rfl, rfl, rfl, rfl, rfl⟩⟩, hE1.2⟩
    refine fin5_0 (m1 := m1) (m2 := m2) (v := 221) (a := a) hEE ha ha rfl (by decide) (by decide) (by decide) (by decide) ⟨rfl, rfl⟩ ⟨fun _ => rfl, rfl, rfl, rfl, rfl, rfl, rfl, rfl, rfl, rfl⟩ rfl h9 (fun M1' hr => hk M1' (fun M2 K2 h2 hk2 => rf M2 K2 (mo_begin (x := 0) h2 (s0 M2 h2) (by decide) (fun M4 h4 => mo_end_n h4 (s0 M2 h2) (by decide) hh (fun M5 h5 => hr M5 K2 h5 hk2)))))
  rcases s16 with ⟨t1, t2, t3, t4, t5, t6⟩ | ⟨t1, t2, t3, t4, t5⟩ | ⟨t1, t2, t3, t4, t5, n, t6, t7, t8⟩
  · exact none0 t2 t3 (fun z => absurd (t1.symm.trans z) (by decide))
  · rcases t5 with ⟨t5, t6⟩ | ⟨n, t6, t7, t8⟩
    · exact none0 t5 t6 (fun z => absurd (t1.symm.trans z) (by decide))
    · have hE1 := ee_send_0 hE t6.1 t1 t8
      refine pl_startOver (mw := wEnd (mz_si (mz_si (mS m1 0 (spc (L1 13 0)) fr vd) (8, 0) 16 0) (3, n) 4 (mz_i (mz_si (mS m1 0 (spc (L1 13 0)) fr vd) (8, 0) 16 0) (3, n) 4 - 1)) 0) (Lw := lu (lu L1 15 0 ss) 17 0 []) (fun K' hk' => pl_way_send h t6.1 t7 (s14.trans t1) hk') (by decide) s1 (fun M3 h3 => ?_)
      rintro _ rfl
      have ht := h3.si (o := (8, 0)) (k := 16) (v := 221) rfl
      refine pl_forget (v := 221) false false false ht rfl (fg_s (by decide)) (fg_2 (by decide)) (fg_2 (by decide)) (fun M9 h9 => ?_)
      have hEE : EE (fgM (mz_si (soM (wEnd (mz_si (mz_si (mS m1 0 (spc (L1 13 0)) fr vd) (8, 0) 16 0) (3, n) 4 (mz_i (mz_si (mS m1 0 (spc (L1 13 0)) fr vd) (8, 0) 16 0) (3, n) 4 - 1)) 0) 0) (8, 0) 16 221) 0 false false false) (lu (lu (lu L1 15 0 ss) 17 0 []) 13 0 []) (rEnd (bsM (mz_si (nB m2 0 a) (30, 0) 32 (Int32.ofNat (spc (L2 43 0) + 1))) 0) 0) (lu L2 43 0 []) := ⟨⟨s1, s2, rfl, Or.inl ⟨rfl, rfl⟩, rfl, rfl, Or.inl ⟨rfl, rfl⟩, Or.inl ⟨rfl, rfl⟩, ⟨rfl, Or.inl rfl⟩, ⟨rfl, 0, by decide, rfl⟩, ⟨rfl, Or.inl ⟨rfl, rfl⟩⟩, ⟨rfl, Or.inl rfl⟩, rfl, rfl, rfl, Or.inl ⟨rfl, rfl, rfl, rfl, rfl, rfl⟩⟩, hE1.2⟩
      refine fin5_0 (m1 := m1) (m2 := m2) (v := 221) (a := a) hEE ha ha rfl (by decide) (by decide) (by decide) (by decide) ⟨rfl, rfl⟩ ⟨fun _ => rfl, rfl, rfl, rfl, rfl, rfl, rfl, rfl, rfl, rfl⟩ rfl h9 (fun M1' hr => hk M1' (fun M2 K2 h2 hk2 => rf M2 K2 (mo_begin (x := 0) h2 (s0 M2 h2) (by decide) (fun M4 h4 => mo_end_n h4 (s0 M2 h2) (by decide) (fun z => absurd (t1.symm.trans z) (by decide)) (fun M5 h5 => hr M5 K2 h5 hk2)))))
  · by_cases hd : mz_i m2 (55, 0) 0 = 0
    · have hE1 := ee_recv0_0 hE t6.1 t1 t8
      have hd1 : mz_i m1 (16, 0) 3 = 0 := s15.trans hd
      refine pl_startOver (mw := wEnd (mz_si (mz_si (mS m1 0 (spc (L1 13 0)) fr vd) (8, 0) 16 0) (3, n) 5 0) 0) (Lw := lu (lu L1 15 0 ss) 17 0 []) (fun K' hk' => pl_way_recv h t6.1 t7 (s14.trans t1) (by rw [if_pos (show mz_i (mz_si (mS m1 0 (spc (L1 13 0)) fr vd) (8, 0) 16 0) (16, 0) 3 = 0 from hd1)]; exact hk')) (by decide) s1 (fun M3 h3 => ?_)
      rintro _ rfl
      have ht := h3.si (o := (8, 0)) (k := 16) (v := 221) rfl
      refine pl_forget (v := 221) false false false ht rfl (fg_s (by decide)) (fg_2 (by decide)) (fg_2 (by decide)) (fun M9 h9 => ?_)
      have hEE : EE (fgM (mz_si (soM (wEnd (mz_si (mz_si (mS m1 0 (spc (L1 13 0)) fr vd) (8, 0) 16 0) (3, n) 5 0) 0) 0) (8, 0) 16 221) 0 false false false) (lu (lu (lu L1 15 0 ss) 17 0 []) 13 0 []) (rEnd (bsM (mz_si (nB m2 0 a) (30, 0) 32 (Int32.ofNat (spc (L2 43 0) + 1))) 0) 0) (lu L2 43 0 []) := ⟨⟨s1, s2, rfl, Or.inl ⟨rfl, rfl⟩, rfl, rfl, Or.inl ⟨rfl, rfl⟩, Or.inl ⟨rfl, rfl⟩, ⟨rfl, Or.inl rfl⟩, ⟨rfl, 0, by decide, rfl⟩, ⟨rfl, Or.inl ⟨rfl, rfl⟩⟩, ⟨rfl, Or.inl rfl⟩, rfl, rfl, rfl, Or.inl ⟨rfl, rfl, rfl, rfl, rfl, rfl⟩⟩, hE1.2⟩
      refine fin5_0 (m1 := m1) (m2 := m2) (v := 221) (a := a) hEE ha ha rfl (by decide) (by decide) (by decide) (by decide) ⟨rfl, rfl⟩ ⟨fun _ => rfl, rfl, rfl, rfl, rfl, rfl, rfl, rfl, rfl, rfl⟩ rfl h9 (fun M1' hr => hk M1' (fun M2 K2 h2 hk2 => rf M2 K2 (mo_begin (x := 0) h2 (s0 M2 h2) (by decide) (fun M4 h4 => mo_end_n h4 (s0 M2 h2) (by decide) (fun _ => hd) (fun M5 h5 => hr M5 K2 h5 hk2)))))
    · have hE1 := ee_recv1_0 hE t6.1 t1 t8
      have hd1 : ¬ mz_i m1 (16, 0) 3 = 0 := fun z => hd (s15.symm.trans z)
      refine pl_startOver (mw := wEnd (mz_si (mz_si (mS m1 0 (spc (L1 13 0)) fr vd) (8, 0) 16 0) (3, n) 5 0) 0) (Lw := lu (lu (lu L1 15 0 ss) 5 n (row24 (L1 5 n) 13)) 17 0 []) (fun K' hk' => pl_way_recv h t6.1 t7 (s14.trans t1) (by rw [if_neg (show ¬ mz_i (mz_si (mS m1 0 (spc (L1 13 0)) fr vd) (8, 0) 16 0) (16, 0) 3 = 0 from hd1)]; exact hk')) (by decide) s1 (fun M3 h3 => ?_)
      rintro _ rfl
      have ht := h3.si (o := (8, 0)) (k := 16) (v := 221) rfl
      refine pl_forget (v := 221) false false false ht rfl (fg_s (by decide)) (fg_2 (by decide)) (fg_2 (by decide)) (fun M9 h9 => ?_)
      have hEE : EE (fgM (mz_si (soM (wEnd (mz_si (mz_si (mS m1 0 (spc (L1 13 0)) fr vd) (8, 0) 16 0) (3, n) 5 0) 0) 0) (8, 0) 16 221) 0 false false false) (lu (lu (lu (lu L1 15 0 ss) 5 n (row24 (L1 5 n) 13)) 17 0 []) 13 0 []) (rEnd (bsM (mz_si (nB m2 0 a) (30, 0) 32 (Int32.ofNat (spc (L2 43 0) + 1))) 0) 0) (lu (lu L2 43 0 []) 38 n (row24 (L2 38 n) 13)) := ⟨⟨s1, s2, rfl, Or.inl ⟨rfl, rfl⟩, rfl, rfl, Or.inl ⟨rfl, rfl⟩, Or.inl ⟨rfl, rfl⟩, ⟨rfl, Or.inl rfl⟩, ⟨rfl, 0, by decide, rfl⟩, ⟨rfl, Or.inl ⟨rfl, rfl⟩⟩, ⟨rfl, Or.inl rfl⟩, rfl, rfl, rfl, Or.inl ⟨rfl, rfl, rfl, rfl, rfl, rfl⟩⟩, hE1.2⟩
      refine fin5_0 (m1 := m1) (m2 := m2) (v := 221) (a := a) hEE ha ha rfl (by decide) (by decide) (by decide) (by decide) ⟨rfl, rfl⟩ ⟨fun _ => rfl, rfl, rfl, rfl, rfl, rfl, rfl, rfl, rfl, rfl⟩ rfl h9 (fun M1' hr => hk M1' (fun M2 K2 h2 hk2 => rf M2 K2 (mo_begin (x := 0) h2 (s0 M2 h2) (by decide) (fun M4 h4 => mo_end_h (n := n) h4 (s0 M2 h2) (by decide) t1 t6.1 t8 ?_))))
      rw [if_neg (show ¬ mz_i (bsM (mz_si (nB m2 0 a) (30, 0) 32 (Int32.ofNat (spc (L2 43 0) + 1))) 0) (55, 0) 0 = 0 from hd)]
      exact fun M5 h5 => hr M5 K2 h5 hk2
theorem ob_1_2 : obPred 1 2 := by
  intro m1 m2 M L1 L2 fr vd a ss K hE o0 ha hfit hW hD hA hfr hss h hk
  obtain ⟨s1, s2, s3, s4, s5, s6, s7, s8, s9, s10, s11, s12, s13, s14, s15, s16⟩ := hE.2.1
  have hcl := spc_le (L1 13 1)
  have h30 : (L1 13 1).length ≤ 30 := (h.line 1).2.1
  have sl : spc (L2 43 1) = spc (L1 13 1) := by rw [s3]
  have s0 : ∀ M2 : MzM, A2 M2 (mz_si (nB m2 1 a) (30, 0) 32 (Int32.ofNat (spc (L2 43 1) + 1))) L2 → (mz_i M2 (30, 0) 29).toInt = ((1 : Nat) : Int) := fun M2 h2 => by rw [h2.1 30 29 rfl]; exact ha
  refine ⟨fun z => absurd z (by decide), fun _ => ⟨2, rfl, by decide, fun z => absurd z (by decide), fun z => absurd z (by decide), fun _ => ?_, fun z => absurd z (by decide), fun z => absurd z (by decide), fun z => absurd z (by decide), fun z => absurd z (by decide), fun z => absurd z (by decide), fun z => absurd z (by decide), fun z => absurd z (by decide), fun z => absurd z (by decide), fun n1 n2 n3 n4 n5 n6 n7 n8 n9 n10 n11 => absurd rfl n3⟩⟩
  -- the reference's road to its answer
  have rf : ∀ (M2 : MzM) (K2 : MzM → Prop), (wp_Mo_beginSession (mz_i M2 (30, 0) 29) M2 (fun M4 => wp_Mo_answer 221 M4 (fun M7 => clrK a K2 M7))) → wp_Mo_doLine_255 (clrK a K2) (mz_i m2 (47, 0) 1) (mz_i m2 (48, 0) 1) (mz_i m2 (49, 0) 1) (Int32.ofNat (2 + 1)) (eaI 2) M2 := by
    intro M2 K2 g
    exact ⟨fun z => absurd z (by decide), fun _ => ⟨fun _ => ⟨fun _ => ⟨fun z => absurd rfl z, fun _ => g⟩, fun z => absurd z (by decide)⟩, fun z => absurd z (by decide)⟩⟩
  have none0 : mz_r m1 (16, 1) 4 = none → mz_i m2 (54, 0) 1 = -1 → (mz_i m2 (53, 0) 1 = 2 → mz_i m2 (55, 0) 1 = 0) → wp_Ses_startOver 1 M (fun M13 => ∀ M129 : MzM, M129 = mz_si M13 (8, 1) 16 221 → tl 1 2 K M129) := by
    intro t2 t3 hh
    have hE1 := ee_none_1 hE t3
    refine pl_startOver (mw := wEnd (mz_si (mS m1 1 (spc (L1 13 1)) fr vd) (8, 1) 16 0) 1) (Lw := lu (lu L1 15 1 ss) 17 1 []) (fun K' hk' => pl_way_none h t2 hk') (by decide) s1 (fun M3 h3 => ?_)
    rintro _ rfl
    have ht := h3.si (o := (8, 1)) (k := 16) (v := 221) rfl
    refine pl_forget (v := 221) false false false ht rfl (fg_s (by decide)) (fg_2 (by decide)) (fg_2 (by decide)) (fun M9 h9 => ?_)
    have hEE : EE (fgM (mz_si (soM (wEnd (mz_si (mS m1 1 (spc (L1 13 1)) fr vd) (8, 1) 16 0) 1) 1) (8, 1) 16 221) 1 false false false) (lu (lu (lu L1 15 1 ss) 17 1 []) 13 1 []) (rEnd (bsM (mz_si (nB m2 1 a) (30, 0) 32 (Int32.ofNat (spc (L2 43 1) + 1))) 1) 1) (lu L2 43 1 []) := ⟨hE1.1, ⟨s1, s2, rfl, Or.inl ⟨rfl, rfl⟩, rfl, rfl, Or.inl ⟨rfl, rfl⟩, Or.inl ⟨rfl, rfl⟩, ⟨rfl, Or.inl rfl⟩, ⟨rfl, 0, by decide, rfl⟩, ⟨rfl, Or.inl ⟨rfl, rfl⟩⟩, ⟨rfl, Or.inl rfl⟩, rfl, rfl, rfl, Or.inl ⟨rfl, rfl, rfl, rfl, rfl, rfl⟩⟩, hE1.2.2⟩
    refine fin5_1 (m1 := m1) (m2 := m2) (v := 221) (a := a) hEE ha ha rfl (by decide) (by decide) (by decide) (by decide) ⟨rfl, rfl⟩ ⟨fun _ => rfl, rfl, rfl, rfl, rfl, rfl, rfl, rfl, rfl, rfl⟩ rfl h9 (fun M1' hr => hk M1' (fun M2 K2 h2 hk2 => rf M2 K2 (mo_begin (x := 1) h2 (s0 M2 h2) (by decide) (fun M4 h4 => mo_end_n h4 (s0 M2 h2) (by decide) hh (fun M5 h5 => hr M5 K2 h5 hk2)))))
  rcases s16 with ⟨t1, t2, t3, t4, t5, t6⟩ | ⟨t1, t2, t3, t4, t5⟩ | ⟨t1, t2, t3, t4, t5, n, t6, t7, t8⟩
  · exact none0 t2 t3 (fun z => absurd (t1.symm.trans z) (by decide))
  · rcases t5 with ⟨t5, t6⟩ | ⟨n, t6, t7, t8⟩
    · exact none0 t5 t6 (fun z => absurd (t1.symm.trans z) (by decide))
    · have hE1 := ee_send_1 hE t6.1 t1 t8
      refine pl_startOver (mw := wEnd (mz_si (mz_si (mS m1 1 (spc (L1 13 1)) fr vd) (8, 1) 16 0) (3, n) 4 (mz_i (mz_si (mS m1 1 (spc (L1 13 1)) fr vd) (8, 1) 16 0) (3, n) 4 - 1)) 1) (Lw := lu (lu L1 15 1 ss) 17 1 []) (fun K' hk' => pl_way_send h t6.1 t7 (s14.trans t1) hk') (by decide) s1 (fun M3 h3 => ?_)
      rintro _ rfl
      have ht := h3.si (o := (8, 1)) (k := 16) (v := 221) rfl
      refine pl_forget (v := 221) false false false ht rfl (fg_s (by decide)) (fg_2 (by decide)) (fg_2 (by decide)) (fun M9 h9 => ?_)
      have hEE : EE (fgM (mz_si (soM (wEnd (mz_si (mz_si (mS m1 1 (spc (L1 13 1)) fr vd) (8, 1) 16 0) (3, n) 4 (mz_i (mz_si (mS m1 1 (spc (L1 13 1)) fr vd) (8, 1) 16 0) (3, n) 4 - 1)) 1) 1) (8, 1) 16 221) 1 false false false) (lu (lu (lu L1 15 1 ss) 17 1 []) 13 1 []) (rEnd (bsM (mz_si (nB m2 1 a) (30, 0) 32 (Int32.ofNat (spc (L2 43 1) + 1))) 1) 1) (lu L2 43 1 []) := ⟨hE1.1, ⟨s1, s2, rfl, Or.inl ⟨rfl, rfl⟩, rfl, rfl, Or.inl ⟨rfl, rfl⟩, Or.inl ⟨rfl, rfl⟩, ⟨rfl, Or.inl rfl⟩, ⟨rfl, 0, by decide, rfl⟩, ⟨rfl, Or.inl ⟨rfl, rfl⟩⟩, ⟨rfl, Or.inl rfl⟩, rfl, rfl, rfl, Or.inl ⟨rfl, rfl, rfl, rfl, rfl, rfl⟩⟩, hE1.2.2⟩
      refine fin5_1 (m1 := m1) (m2 := m2) (v := 221) (a := a) hEE ha ha rfl (by decide) (by decide) (by decide) (by decide) ⟨rfl, rfl⟩ ⟨fun _ => rfl, rfl, rfl, rfl, rfl, rfl, rfl, rfl, rfl, rfl⟩ rfl h9 (fun M1' hr => hk M1' (fun M2 K2 h2 hk2 => rf M2 K2 (mo_begin (x := 1) h2 (s0 M2 h2) (by decide) (fun M4 h4 => mo_end_n h4 (s0 M2 h2) (by decide) (fun z => absurd (t1.symm.trans z) (by decide)) (fun M5 h5 => hr M5 K2 h5 hk2)))))
  · by_cases hd : mz_i m2 (55, 0) 1 = 0
    · have hE1 := ee_recv0_1 hE t6.1 t1 t8
      have hd1 : mz_i m1 (16, 1) 3 = 0 := s15.trans hd
      refine pl_startOver (mw := wEnd (mz_si (mz_si (mS m1 1 (spc (L1 13 1)) fr vd) (8, 1) 16 0) (3, n) 5 0) 1) (Lw := lu (lu L1 15 1 ss) 17 1 []) (fun K' hk' => pl_way_recv h t6.1 t7 (s14.trans t1) (by rw [if_pos (show mz_i (mz_si (mS m1 1 (spc (L1 13 1)) fr vd) (8, 1) 16 0) (16, 1) 3 = 0 from hd1)]; exact hk')) (by decide) s1 (fun M3 h3 => ?_)
      rintro _ rfl
      have ht := h3.si (o := (8, 1)) (k := 16) (v := 221) rfl
      refine pl_forget (v := 221) false false false ht rfl (fg_s (by decide)) (fg_2 (by decide)) (fg_2 (by decide)) (fun M9 h9 => ?_)
      have hEE : EE (fgM (mz_si (soM (wEnd (mz_si (mz_si (mS m1 1 (spc (L1 13 1)) fr vd) (8, 1) 16 0) (3, n) 5 0) 1) 1) (8, 1) 16 221) 1 false false false) (lu (lu (lu L1 15 1 ss) 17 1 []) 13 1 []) (rEnd (bsM (mz_si (nB m2 1 a) (30, 0) 32 (Int32.ofNat (spc (L2 43 1) + 1))) 1) 1) (lu L2 43 1 []) := ⟨hE1.1, ⟨s1, s2, rfl, Or.inl ⟨rfl, rfl⟩, rfl, rfl, Or.inl ⟨rfl, rfl⟩, Or.inl ⟨rfl, rfl⟩, ⟨rfl, Or.inl rfl⟩, ⟨rfl, 0, by decide, rfl⟩, ⟨rfl, Or.inl ⟨rfl, rfl⟩⟩, ⟨rfl, Or.inl rfl⟩, rfl, rfl, rfl, Or.inl ⟨rfl, rfl, rfl, rfl, rfl, rfl⟩⟩, hE1.2.2⟩
      refine fin5_1 (m1 := m1) (m2 := m2) (v := 221) (a := a) hEE ha ha rfl (by decide) (by decide) (by decide) (by decide) ⟨rfl, rfl⟩ ⟨fun _ => rfl, rfl, rfl, rfl, rfl, rfl, rfl, rfl, rfl, rfl⟩ rfl h9 (fun M1' hr => hk M1' (fun M2 K2 h2 hk2 => rf M2 K2 (mo_begin (x := 1) h2 (s0 M2 h2) (by decide) (fun M4 h4 => mo_end_n h4 (s0 M2 h2) (by decide) (fun _ => hd) (fun M5 h5 => hr M5 K2 h5 hk2)))))
    · have hE1 := ee_recv1_1 hE t6.1 t1 t8
      have hd1 : ¬ mz_i m1 (16, 1) 3 = 0 := fun z => hd (s15.symm.trans z)
      refine pl_startOver (mw := wEnd (mz_si (mz_si (mS m1 1 (spc (L1 13 1)) fr vd) (8, 1) 16 0) (3, n) 5 0) 1) (Lw := lu (lu (lu L1 15 1 ss) 5 n (row24 (L1 5 n) 13)) 17 1 []) (fun K' hk' => pl_way_recv h t6.1 t7 (s14.trans t1) (by rw [if_neg (show ¬ mz_i (mz_si (mS m1 1 (spc (L1 13 1)) fr vd) (8, 1) 16 0) (16, 1) 3 = 0 from hd1)]; exact hk')) (by decide) s1 (fun M3 h3 => ?_)
      rintro _ rfl
      have ht := h3.si (o := (8, 1)) (k := 16) (v := 221) rfl
      refine pl_forget (v := 221) false false false ht rfl (fg_s (by decide)) (fg_2 (by decide)) (fg_2 (by decide)) (fun M9 h9 => ?_)
      have hEE : EE (fgM (mz_si (soM (wEnd (mz_si (mz_si (mS m1 1 (spc (L1 13 1)) fr vd) (8, 1) 16 0) (3, n) 5 0) 1) 1) (8, 1) 16 221) 1 false false false) (lu (lu (lu (lu L1 15 1 ss) 5 n (row24 (L1 5 n) 13)) 17 1 []) 13 1 []) (rEnd (bsM (mz_si (nB m2 1 a) (30, 0) 32 (Int32.ofNat (spc (L2 43 1) + 1))) 1) 1) (lu (lu L2 43 1 []) 38 n (row24 (L2 38 n) 13)) := ⟨hE1.1, ⟨s1, s2, rfl, Or.inl ⟨rfl, rfl⟩, rfl, rfl, Or.inl ⟨rfl, rfl⟩, Or.inl ⟨rfl, rfl⟩, ⟨rfl, Or.inl rfl⟩, ⟨rfl, 0, by decide, rfl⟩, ⟨rfl, Or.inl ⟨rfl, rfl⟩⟩, ⟨rfl, Or.inl rfl⟩, rfl, rfl, rfl, Or.inl ⟨rfl, rfl, rfl, rfl, rfl, rfl⟩⟩, hE1.2.2⟩
      refine fin5_1 (m1 := m1) (m2 := m2) (v := 221) (a := a) hEE ha ha rfl (by decide) (by decide) (by decide) (by decide) ⟨rfl, rfl⟩ ⟨fun _ => rfl, rfl, rfl, rfl, rfl, rfl, rfl, rfl, rfl, rfl⟩ rfl h9 (fun M1' hr => hk M1' (fun M2 K2 h2 hk2 => rf M2 K2 (mo_begin (x := 1) h2 (s0 M2 h2) (by decide) (fun M4 h4 => mo_end_h (n := n) h4 (s0 M2 h2) (by decide) t1 t6.1 t8 ?_))))
      rw [if_neg (show ¬ mz_i (bsM (mz_si (nB m2 1 a) (30, 0) 32 (Int32.ofNat (spc (L2 43 1) + 1))) 1) (55, 0) 1 = 0 from hd)]
      exact fun M5 h5 => hr M5 K2 h5 hk2
