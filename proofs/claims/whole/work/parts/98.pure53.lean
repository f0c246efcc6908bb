theorem ee_line2_0 {mo no : MzM} {LO L2O : MzV} (hE : EE mo LO no L2O) (ds ds' q q' : List Int32) (w : Int32) : EE (mz_si mo (12, 0) 3 0) (lu (lu (lu (lu (lu LO 13 0 []) 11 0 ds) 9 0 q') 11 0 ds') 9 0 q) (mz_si (mz_si no (30, 0) 30 w) (42, 0) 0 0) (lu (lu (lu L2O 45 0 q') 45 0 q) 43 0 []) := by
  obtain ⟨s1, s2, s3, s4, s5, s6, s7, s8, s9, s10, s11, s12, s13, s14, s15, s16⟩ := hE.1
  exact ⟨⟨s1, rfl, rfl, s4, s5, rfl, s7, s8, s9, s10, s11, s12, s13, s14, s15, s16⟩, hE.2.1, hE.2.2⟩
/-- a line that is answered 426 and 226, its transfer ended between them -/
theorem fin426_0 {m1 m2 mo nb M1 : MzM} {LO L2b L2O : MzV} {a : Int32} {K : MzM → Prop} (hE : EE mo LO (rEnd nb 0) L2O) (ha : a.toInt = ((0 : Nat) : Int)) (hs : (mz_i nb (30, 0) 29).toInt = ((0 : Nat) : Int)) (hf : mz_i nb (30, 0) 30 = 0) (ho : mz_i nb (39, 0) 0 = 0 ∧ mz_i nb (40, 0) 0 = 0) (hcp : cpF m1 m2 mo nb) (hv : mz_i mo (8, 0) 16 = 426) (h45 : L2b 45 0 = L2O 45 0) (hend : ∀ (M2 : MzM) (K2 : MzM → Prop) (a' w : Int32) (q : List Int32), a'.toInt = ((0 : Nat) : Int) → A2 M2 (mz_si nb (30, 0) 30 w) (lu L2b 45 0 q) → (∀ M', A2 M' (rEnd (mz_si nb (30, 0) 30 w) 0) (lu L2O 45 0 q) → K2 M') → wp_Mo_endTransfer a' M2 K2) (h1 : A1 M1 mo LO) (hk : ∀ M1', (∀ (M2 : MzM) (K2 : MzM → Prop), A2 M2 nb L2b → (∀ M2', OL m1 m2 0 M1' M2' → K2 M2') → wp_Mo_answer 426 M2 (fun M98 => wp_Mo_endTransfer (mz_i M98 (30, 0) 29) M98 (fun M101 => wp_Mo_answer 226 M101 (fun M104 => clrK a K2 M104)))) → K M1') : tlA 0 K M1 := by
  refine pl_startLine h1 (fun M3 h3 => ?_)
  have e3 : mz_i M3 (8, 0) 16 = 426 := (h3.1 (8, 0) 16 rfl).trans hv
  rw [e3]
  refine pl_answer5 h3 (by decide) (by decide) (fun M4 ds h4 => ?_)
  have e4 : mz_i M4 (8, 0) 16 = 426 := (h4.1 (8, 0) 16 rfl).trans hv
  refine ⟨fun z => absurd e4 z, fun _ => pl_answer5 h4 (by decide) (by decide) (fun M5 ds' h5 => ?_)⟩
  have hns : nsp mo LO 0 := nsp_0 hE
  refine pl_notSpent h5 hns (hk M5 (fun M2 K2 h2 hk2 => ?_))
  refine mo_answer h2 hs (by decide) (fun M6 h6 => ?_)
  have s6 : (mz_i M6 (30, 0) 29).toInt = ((0 : Nat) : Int) := by rw [h6.1 30 29 rfl]; exact hs
  refine hend M6 _ _ _ _ s6 h6 (fun M7 h7 => ?_)
  refine mo_answer h7 hs (by decide) (fun M8 h8 => mo_clr h8 ha (by decide) (fun M9 h9 => hk2 M9 ?_))
  have hq : L2O 45 0 = LO 9 0 := (hE.1).2.1.symm
  have e9 : lu (lu (lu LO 13 0 []) 11 0 ds) 9 0 (qap (lu LO 13 0 [] 9 0) (dg 426 ++ [13] ++ [10])) 9 0 = qap (LO 9 0) (dg 426 ++ [13] ++ [10]) := rfl
  rw [lu_same, h45, hq, ← dg426, ← dg226] at h9
  rw [e9] at h5
  refine ⟨_, _, _, _, h5, h9, ee_line2_0 hE ds ds' _ _ 0, hcp, ho, ⟨?_, posv hv (by decide)⟩, fun z => absurd (hv.symm.trans z) (by decide)⟩
  show mz_i mo (8, 0) 16 = fa (rEnd (mz_si nb (30, 0) 30 (fa nb 426)) 0) 226
  have f1 : fa nb 426 = 426 := fa_0 hf
  rw [hv, f1]
  show (426 : Int32) = fa (rEnd (mz_si nb (30, 0) 30 426) 0) 226
  exact (if_neg (by show ¬ (426 : Int32) = 0; decide)).symm
theorem ob_0_15 : obPred 0 15 := by
  intro m1 m2 M L1 L2 fr vd a ss K hE o0 ha hfit hW hD hA hfr hss h hk
  obtain ⟨s1, s2, s3, s4, s5, s6, s7, s8, s9, s10, s11, s12, s13, s14, s15, s16⟩ := hE.1
  have hcl := spc_le (L1 13 0)
  have h30 : (L1 13 0).length ≤ 30 := (h.line 0).2.1
  have sl : spc (L2 43 0) = spc (L1 13 0) := by rw [s3]
  have s0 : ∀ M2 : MzM, A2 M2 (mz_si (nB m2 0 a) (30, 0) 32 (Int32.ofNat (spc (L2 43 0) + 1))) L2 → (mz_i M2 (30, 0) 29).toInt = ((0 : Nat) : Int) := fun M2 h2 => by rw [h2.1 30 29 rfl]; exact ha
  have ey : mz_i M (16, 0) 1 = mz_i m2 (53, 0) 0 := (h.1 (16, 0) 1 rfl).trans s14
  have rf0 : mz_i m2 (53, 0) 0 = 0 → ∀ (M2 : MzM) (K2 : MzM → Prop), A2 M2 (mz_si (nB m2 0 a) (30, 0) 32 (Int32.ofNat (spc (L2 43 0) + 1))) L2 → wp_Mo_endTransfer (mz_i M2 (30, 0) 29) M2 (fun M92 => wp_Mo_answer 226 M92 (fun M95 => clrK a K2 M95)) → wp_Mo_doLine_255 (clrK a K2) (mz_i m2 (47, 0) 0) (mz_i m2 (48, 0) 0) (mz_i m2 (49, 0) 0) (Int32.ofNat (15 + 1)) (eaI 15) M2 := by
    intro hz M2 K2 h2 g
    have e53 : mz_i M2 (53, 0) 0 = 0 := (h2.1 53 0 rfl).trans hz
    refine ⟨fun _ => mo_pc (fun z => absurd z (by decide)) (fun _ => ⟨fun _ => ?_, fun z => absurd rfl z⟩), fun z => absurd z (by decide)⟩
    exact ⟨fun z => absurd z (by decide), fun z => absurd z (by decide), fun z => absurd z (by decide), fun z => absurd z (by decide), fun z => absurd z (by decide), fun _ => ⟨0, s0 M2 h2, by decide, fun _ => g, fun z => absurd (by rw [e53]; decide) z⟩, fun n5 n6 n8 n10 n11 n16 => absurd rfl n16⟩
  have rf1 : ¬ mz_i m2 (53, 0) 0 ≤ 0 → ∀ (M2 : MzM) (K2 : MzM → Prop), A2 M2 (mz_si (nB m2 0 a) (30, 0) 32 (Int32.ofNat (spc (L2 43 0) + 1))) L2 → wp_Mo_answer 426 M2 (fun M98 => wp_Mo_endTransfer (mz_i M98 (30, 0) 29) M98 (fun M101 => wp_Mo_answer 226 M101 (fun M104 => clrK a K2 M104))) → wp_Mo_doLine_255 (clrK a K2) (mz_i m2 (47, 0) 0) (mz_i m2 (48, 0) 0) (mz_i m2 (49, 0) 0) (Int32.ofNat (15 + 1)) (eaI 15) M2 := by
    intro hz M2 K2 h2 g
    have e53 : mz_i M2 (53, 0) 0 = mz_i m2 (53, 0) 0 := h2.1 53 0 rfl
    refine ⟨fun _ => mo_pc (fun z => absurd z (by decide)) (fun _ => ⟨fun _ => ?_, fun z => absurd rfl z⟩), fun z => absurd z (by decide)⟩
    exact ⟨fun z => absurd z (by decide), fun z => absurd z (by decide), fun z => absurd z (by decide), fun z => absurd z (by decide), fun z => absurd z (by decide), fun _ => ⟨0, s0 M2 h2, by decide, fun z => absurd (by rw [← e53]; exact z) hz, fun _ => g⟩, fun n5 n6 n8 n10 n11 n16 => absurd rfl n16⟩
  refine ⟨fun z => absurd z (by decide), fun _ => ⟨15, rfl, by decide, fun z => absurd z (by decide), fun z => absurd z (by decide), fun z => absurd z (by decide), fun z => absurd z (by decide), fun z => absurd z (by decide), fun z => absurd z (by decide), fun z => absurd z (by decide), fun z => absurd z (by decide), fun z => absurd z (by decide), fun z => absurd z (by decide), fun _ => ?_, fun n1 n2 n3 n4 n5 n6 n7 n8 n9 n10 n11 => absurd rfl n11⟩⟩
  unfold wp_Ses_abort
  rw [ey]
  rcases s16 with ⟨t1, t2, t3, t4, t5, t6⟩ | ⟨t1, t2, t3, t4, t5⟩ | ⟨t1, t2, t3, t4, t5, n, t6, t7, t8⟩
  · have hE1 := ee_none_0 hE t3
    refine pl_way_none h t2 (fun M3 h3 => ?_)
    rw [t1]
    refine ⟨fun z => absurd rfl z, fun _ => ?_⟩
    rintro _ rfl
    have ht := h3.si (o := (8, 0)) (k := 16) (v := 226) rfl
    refine pl_forget (v := 226) false false false ht rfl (fg_s (by decide)) (fg_2 (by decide)) (fg_2 (by decide)) (fun M9 h9 => ?_)
    have hEE : EE (fgM (mz_si (wEnd (mz_si (mS m1 0 (spc (L1 13 0)) fr vd) (8, 0) 16 0) 0) (8, 0) 16 226) 0 false false false) (lu (lu L1 15 0 ss) 17 0 []) (rEnd (mz_si (nB m2 0 a) (30, 0) 32 (Int32.ofNat (spc (L2 43 0) + 1))) 0) L2 := ⟨⟨s1, s2, s3, Or.inl ⟨o0, rfl⟩, rfl, s6, s7, Or.inl ⟨rfl, rfl⟩, ⟨rfl, Or.inl rfl⟩, ⟨rfl, 0, by decide, rfl⟩, s11, s12, rfl, rfl, rfl, Or.inl ⟨rfl, rfl, rfl, rfl, rfl, rfl⟩⟩, hE1.2⟩
    refine fin5_0 (m1 := m1) (m2 := m2) (v := 226) (a := a) hEE ha ha rfl (by decide) (by decide) (by decide) (by decide) ⟨o0, rfl⟩ ⟨fun _ => rfl, rfl, rfl, rfl, rfl, rfl, rfl, rfl, rfl, rfl⟩ rfl h9 (fun M1' hr => hk M1' (fun M2 K2 h2 hk2 => rf0 t1 M2 K2 h2 (mo_end_n (x := 0) h2 (s0 M2 h2) (by decide) (fun z => absurd (t1.symm.trans z) (by decide)) (fun M5 h5 => hr M5 K2 h5 hk2))))
  · have h53 : ¬ mz_i m2 (53, 0) 0 ≤ 0 := by rw [t1]; decide
    rcases t5 with ⟨t5, t6⟩ | ⟨n, t6, t7, t8⟩
    · have hE1 := ee_none_0 hE t6
      refine pl_way_none h t5 (fun M3 h3 => ?_)
      rw [t1]
      refine ⟨fun _ => ?_, fun z => absurd z (by decide)⟩
      rintro _ rfl
      have ht := h3.si (o := (8, 0)) (k := 16) (v := 426) rfl
      refine pl_forget (v := 426) false false false ht rfl (fg_s (by decide)) (fg_2 (by decide)) (fg_2 (by decide)) (fun M9 h9 => ?_)
      have hEE : EE (fgM (mz_si (wEnd (mz_si (mS m1 0 (spc (L1 13 0)) fr vd) (8, 0) 16 0) 0) (8, 0) 16 426) 0 false false false) (lu (lu L1 15 0 ss) 17 0 []) (rEnd (mz_si (nB m2 0 a) (30, 0) 32 (Int32.ofNat (spc (L2 43 0) + 1))) 0) L2 := ⟨⟨s1, s2, s3, Or.inl ⟨o0, rfl⟩, rfl, s6, s7, Or.inl ⟨rfl, rfl⟩, ⟨rfl, Or.inl rfl⟩, ⟨rfl, 0, by decide, rfl⟩, s11, s12, rfl, rfl, rfl, Or.inl ⟨rfl, rfl, rfl, rfl, rfl, rfl⟩⟩, hE1.2⟩
      refine fin426_0 (m1 := m1) (m2 := m2) (a := a) (nb := (mz_si (nB m2 0 a) (30, 0) 32 (Int32.ofNat (spc (L2 43 0) + 1)))) (L2b := L2) hEE ha ha rfl ⟨o0, rfl⟩ ⟨fun _ => rfl, rfl, rfl, rfl, rfl, rfl, rfl, rfl, rfl, rfl⟩ rfl rfl (fun M2 K2 a' w q ha' hA hkk => mo_end_n (x := 0) hA ha' (by decide) (fun z => absurd (t1.symm.trans z) (by decide)) hkk) h9 (fun M1' hr => hk M1' (fun M2 K2 h2 hk2 => rf1 h53 M2 K2 h2 (hr M2 K2 h2 hk2)))
    · have hE1 := ee_send_0 hE t6.1 t1 t8
      refine pl_way_send h t6.1 t7 (s14.trans t1) (fun M3 h3 => ?_)
      rw [t1]
      refine ⟨fun _ => ?_, fun z => absurd z (by decide)⟩
      rintro _ rfl
      have ht := h3.si (o := (8, 0)) (k := 16) (v := 426) rfl
      refine pl_forget (v := 426) false false false ht rfl (fg_s (by decide)) (fg_2 (by decide)) (fg_2 (by decide)) (fun M9 h9 => ?_)
      have hEE : EE (fgM (mz_si (wEnd (mz_si (mz_si (mS m1 0 (spc (L1 13 0)) fr vd) (8, 0) 16 0) (3, n) 4 (mz_i (mz_si (mS m1 0 (spc (L1 13 0)) fr vd) (8, 0) 16 0) (3, n) 4 - 1)) 0) (8, 0) 16 426) 0 false false false) (lu (lu L1 15 0 ss) 17 0 []) (rEnd (mz_si (nB m2 0 a) (30, 0) 32 (Int32.ofNat (spc (L2 43 0) + 1))) 0) L2 := ⟨⟨s1, s2, s3, Or.inl ⟨o0, rfl⟩, rfl, s6, s7, Or.inl ⟨rfl, rfl⟩, ⟨rfl, Or.inl rfl⟩, ⟨rfl, 0, by decide, rfl⟩, s11, s12, rfl, rfl, rfl, Or.inl ⟨rfl, rfl, rfl, rfl, rfl, rfl⟩⟩, hE1.2⟩
      refine fin426_0 (m1 := m1) (m2 := m2) (a := a) (nb := (mz_si (nB m2 0 a) (30, 0) 32 (Int32.ofNat (spc (L2 43 0) + 1)))) (L2b := L2) hEE ha ha rfl ⟨o0, rfl⟩ ⟨fun _ => rfl, rfl, rfl, rfl, rfl, rfl, rfl, rfl, rfl, rfl⟩ rfl rfl (fun M2 K2 a' w q ha' hA hkk => mo_end_n (x := 0) hA ha' (by decide) (fun z => absurd (t1.symm.trans z) (by decide)) hkk) h9 (fun M1' hr => hk M1' (fun M2 K2 h2 hk2 => rf1 h53 M2 K2 h2 (hr M2 K2 h2 hk2)))
  · have h53 : ¬ mz_i m2 (53, 0) 0 ≤ 0 := by rw [t1]; decide
    by_cases hd : mz_i m2 (55, 0) 0 = 0
    · have hE1 := ee_recv0_0 hE t6.1 t1 t8
      have hd1 : mz_i m1 (16, 0) 3 = 0 := s15.trans hd
      refine pl_way_recv h t6.1 t7 (s14.trans t1) ?_
      rw [if_pos (show mz_i (mz_si (mS m1 0 (spc (L1 13 0)) fr vd) (8, 0) 16 0) (16, 0) 3 = 0 from hd1)]
      intro M3 h3
      rw [t1]
      refine ⟨fun _ => ?_, fun z => absurd z (by decide)⟩
      rintro _ rfl
      have ht := h3.si (o := (8, 0)) (k := 16) (v := 426) rfl
      refine pl_forget (v := 426) false false false ht rfl (fg_s (by decide)) (fg_2 (by decide)) (fg_2 (by decide)) (fun M9 h9 => ?_)
      have hEE : EE (fgM (mz_si (wEnd (mz_si (mz_si (mS m1 0 (spc (L1 13 0)) fr vd) (8, 0) 16 0) (3, n) 5 0) 0) (8, 0) 16 426) 0 false false false) (lu (lu L1 15 0 ss) 17 0 []) (rEnd (mz_si (nB m2 0 a) (30, 0) 32 (Int32.ofNat (spc (L2 43 0) + 1))) 0) L2 := ⟨⟨s1, s2, s3, Or.inl ⟨o0, rfl⟩, rfl, s6, s7, Or.inl ⟨rfl, rfl⟩, ⟨rfl, Or.inl rfl⟩, ⟨rfl, 0, by decide, rfl⟩, s11, s12, rfl, rfl, rfl, Or.inl ⟨rfl, rfl, rfl, rfl, rfl, rfl⟩⟩, hE1.2⟩
      refine fin426_0 (m1 := m1) (m2 := m2) (a := a) (nb := (mz_si (nB m2 0 a) (30, 0) 32 (Int32.ofNat (spc (L2 43 0) + 1)))) (L2b := L2) hEE ha ha rfl ⟨o0, rfl⟩ ⟨fun _ => rfl, rfl, rfl, rfl, rfl, rfl, rfl, rfl, rfl, rfl⟩ rfl rfl (fun M2 K2 a' w q ha' hA hkk => mo_end_n (x := 0) hA ha' (by decide) (fun _ => hd) hkk) h9 (fun M1' hr => hk M1' (fun M2 K2 h2 hk2 => rf1 h53 M2 K2 h2 (hr M2 K2 h2 hk2)))
    · have hE1 := ee_recv1_0 hE t6.1 t1 t8
      have hd1 : ¬ mz_i m1 (16, 0) 3 = 0 := fun z => hd (s15.symm.trans z)
      refine pl_way_recv h t6.1 t7 (s14.trans t1) ?_
      rw [if_neg (show ¬ mz_i (mz_si (mS m1 0 (spc (L1 13 0)) fr vd) (8, 0) 16 0) (16, 0) 3 = 0 from hd1)]
      intro M3 h3
      rw [t1]
      refine ⟨fun _ => ?_, fun z => absurd z (by decide)⟩
      have hend : ∀ (M2 : MzM) (K2 : MzM → Prop) (a' w : Int32) (q : List Int32), a'.toInt = ((0 : Nat) : Int) → A2 M2 (mz_si (mz_si (nB m2 0 a) (30, 0) 32 (Int32.ofNat (spc (L2 43 0) + 1))) (30, 0) 30 w) (lu L2 45 0 q) → (∀ M', A2 M' (rEnd (mz_si (mz_si (nB m2 0 a) (30, 0) 32 (Int32.ofNat (spc (L2 43 0) + 1))) (30, 0) 30 w) 0) (lu (lu L2 38 n (row24 (L2 38 n) 13)) 45 0 q) → K2 M') → wp_Mo_endTransfer a' M2 K2 := by
        intro M2 K2 a' w q ha' hA hkk
        refine mo_end_h (n := n) hA ha' (by decide) t1 t6.1 t8 ?_
        rw [if_neg (show ¬ mz_i (mz_si (mz_si (nB m2 0 a) (30, 0) 32 (Int32.ofNat (spc (L2 43 0) + 1))) (30, 0) 30 w) (55, 0) 0 = 0 from hd)]
        intro M' h'
        refine hkk M' ?_
        have el : lu (lu L2 38 n (row24 (L2 38 n) 13)) 45 0 q = lu (lu L2 45 0 q) 38 n (row24 (lu L2 45 0 q 38 n) 13) := by
          funext u v
          have e38 : lu L2 45 0 q 38 n = L2 38 n := lu_ne L2 _ (fun z => absurd z.1 (by decide))
          rw [e38]
          simp only [lu]
          by_cases hu : u = 45 ∧ v = 0
          · rw [if_pos hu, if_neg (fun z => absurd (z.1.symm.trans hu.1) (by decide)), if_pos hu]
          · rw [if_neg hu, if_neg hu]
        rw [el]
        exact h'
      rintro _ rfl
      have ht := h3.si (o := (8, 0)) (k := 16) (v := 426) rfl
      refine pl_forget (v := 426) false false false ht rfl (fg_s (by decide)) (fg_2 (by decide)) (fg_2 (by decide)) (fun M9 h9 => ?_)
      have hEE : EE (fgM (mz_si (wEnd (mz_si (mz_si (mS m1 0 (spc (L1 13 0)) fr vd) (8, 0) 16 0) (3, n) 5 0) 0) (8, 0) 16 426) 0 false false false) (lu (lu (lu L1 15 0 ss) 5 n (row24 (L1 5 n) 13)) 17 0 []) (rEnd (mz_si (nB m2 0 a) (30, 0) 32 (Int32.ofNat (spc (L2 43 0) + 1))) 0) (lu L2 38 n (row24 (L2 38 n) 13)) := ⟨⟨s1, s2, s3, Or.inl ⟨o0, rfl⟩, rfl, s6, s7, Or.inl ⟨rfl, rfl⟩, ⟨rfl, Or.inl rfl⟩, ⟨rfl, 0, by decide, rfl⟩, s11, s12, rfl, rfl, rfl, Or.inl ⟨rfl, rfl, rfl, rfl, rfl, rfl⟩⟩, hE1.2⟩
      refine fin426_0 (m1 := m1) (m2 := m2) (a := a) (nb := (mz_si (nB m2 0 a) (30, 0) 32 (Int32.ofNat (spc (L2 43 0) + 1)))) (L2b := L2) hEE ha ha rfl ⟨o0, rfl⟩ ⟨fun _ => rfl, rfl, rfl, rfl, rfl, rfl, rfl, rfl, rfl, rfl⟩ rfl rfl hend h9 (fun M1' hr => hk M1' (fun M2 K2 h2 hk2 => rf1 h53 M2 K2 h2 (hr M2 K2 h2 hk2)))
theorem ee_line2_1 {mo no : MzM} {LO L2O : MzV} (hE : EE mo LO no L2O) (ds ds' q q' : List Int32) (w : Int32) : EE (mz_si mo (12, 1) 3 0) (lu (lu (lu (lu (lu LO 13 1 []) 11 1 ds) 9 1 q') 11 1 ds') 9 1 q) (mz_si (mz_si no (30, 0) 30 w) (42, 0) 1 0) (lu (lu (lu L2O 45 1 q') 45 1 q) 43 1 []) := by
  obtain ⟨s1, s2, s3, s4, s5, s6, s7, s8, s9, s10, s11, s12, s13, s14, s15, s16⟩ := hE.2.1
  exact ⟨hE.1, ⟨s1, rfl, rfl, s4, s5, rfl, s7, s8, s9, s10, s11, s12, s13, s14, s15, s16⟩, hE.2.2⟩
/-- a line that is answered 426 and 226, its transfer ended between them -/
theorem fin426_1 {m1 m2 mo nb M1 : MzM} {LO L2b L2O : MzV} {a : Int32} {K : MzM → Prop} (hE : EE mo LO (rEnd nb 1) L2O) (ha : a.toInt = ((1 : Nat) : Int)) (hs : (mz_i nb (30, 0) 29).toInt = ((1 : Nat) : Int)) (hf : mz_i nb (30, 0) 30 = 0) (ho : mz_i nb (39, 0) 1 = 0 ∧ mz_i nb (40, 0) 1 = 0) (hcp : cpF m1 m2 mo nb) (hv : mz_i mo (8, 1) 16 = 426) (h45 : L2b 45 1 = L2O 45 1) (hend : ∀ (M2 : MzM) (K2 : MzM → Prop) (a' w : Int32) (q : List Int32), a'.toInt = ((1 : Nat) : Int) → A2 M2 (mz_si nb (30, 0) 30 w) (lu L2b 45 1 q) → (∀ M', A2 M' (rEnd (mz_si nb (30, 0) 30 w) 1) (lu L2O 45 1 q) → K2 M') → wp_Mo_endTransfer a' M2 K2) (h1 : A1 M1 mo LO) (hk : ∀ M1', (∀ (M2 : MzM) (K2 : MzM → Prop), A2 M2 nb L2b → (∀ M2', OL m1 m2 1 M1' M2' → K2 M2') → wp_Mo_answer 426 M2 (fun M98 => wp_Mo_endTransfer (mz_i M98 (30, 0) 29) M98 (fun M101 => wp_Mo_answer 226 M101 (fun M104 => clrK a K2 M104)))) → K M1') : tlA 1 K M1 := by
  refine pl_startLine h1 (fun M3 h3 => ?_)
  have e3 : mz_i M3 (8, 1) 16 = 426 := (h3.1 (8, 1) 16 rfl).trans hv
  rw [e3]
  refine pl_answer5 h3 (by decide) (by decide) (fun M4 ds h4 => ?_)
  have e4 : mz_i M4 (8, 1) 16 = 426 := (h4.1 (8, 1) 16 rfl).trans hv
  refine ⟨fun z => absurd e4 z, fun _ => pl_answer5 h4 (by decide) (by decide) (fun M5 ds' h5 => ?_)⟩
  have hns : nsp mo LO 1 := nsp_1 hE
  refine pl_notSpent h5 hns (hk M5 (fun M2 K2 h2 hk2 => ?_))
  refine mo_answer h2 hs (by decide) (fun M6 h6 => ?_)
  have s6 : (mz_i M6 (30, 0) 29).toInt = ((1 : Nat) : Int) := by rw [h6.1 30 29 rfl]; exact hs
  refine hend M6 _ _ _ _ s6 h6 (fun M7 h7 => ?_)
  refine mo_answer h7 hs (by decide) (fun M8 h8 => mo_clr h8 ha (by decide) (fun M9 h9 => hk2 M9 ?_))
  have hq : L2O 45 1 = LO 9 1 := (hE.2.1).2.1.symm
  have e9 : lu (lu (lu LO 13 1 []) 11 1 ds) 9 1 (qap (lu LO 13 1 [] 9 1) (dg 426 ++ [13] ++ [10])) 9 1 = qap (LO 9 1) (dg 426 ++ [13] ++ [10]) := rfl
  rw [lu_same, h45, hq, ← dg426, ← dg226] at h9
  rw [e9] at h5
  refine ⟨_, _, _, _, h5, h9, ee_line2_1 hE ds ds' _ _ 0, hcp, ho, ⟨?_, posv hv (by decide)⟩, fun z => absurd (hv.symm.trans z) (by decide)⟩
  show mz_i mo (8, 1) 16 = fa (rEnd (mz_si nb (30, 0) 30 (fa nb 426)) 1) 226
  have f1 : fa nb 426 = 426 := fa_0 hf
  rw [hv, f1]
  show (426 : Int32) = fa (rEnd (mz_si nb (30, 0) 30 426) 1) 226
  exact (if_neg (by show ¬ (426 : Int32) = 0; decide)).symm
theorem ob_1_15 : obPred 1 15 := by
  intro m1 m2 M L1 L2 fr vd a ss K hE o0 ha hfit hW hD hA hfr hss h hk
  obtain ⟨s1, s2, s3, s4, s5, s6, s7, s8, s9, s10, s11, s12, s13, s14, s15, s16⟩ := hE.2.1
  have hcl := spc_le (L1 13 1)
  have h30 : (L1 13 1).length ≤ 30 := (h.line 1).2.1
  have sl : spc (L2 43 1) = spc (L1 13 1) := by rw [s3]
  have s0 : ∀ M2 : MzM, A2 M2 (mz_si (nB m2 1 a) (30, 0) 32 (Int32.ofNat (spc (L2 43 1) + 1))) L2 → (mz_i M2 (30, 0) 29).toInt = ((1 : Nat) : Int) := fun M2 h2 => by rw [h2.1 30 29 rfl]; exact ha
  have ey : mz_i M (16, 1) 1 = mz_i m2 (53, 0) 1 := (h.1 (16, 1) 1 rfl).trans s14
  have rf0 : mz_i m2 (53, 0) 1 = 0 → ∀ (M2 : MzM) (K2 : MzM → Prop), A2 M2 (mz_si (nB m2 1 a) (30, 0) 32 (Int32.ofNat (spc (L2 43 1) + 1))) L2 → wp_Mo_endTransfer (mz_i M2 (30, 0) 29) M2 (fun M92 => wp_Mo_answer 226 M92 (fun M95 => clrK a K2 M95)) → wp_Mo_doLine_255 (clrK a K2) (mz_i m2 (47, 0) 1) (mz_i m2 (48, 0) 1) (mz_i m2 (49, 0) 1) (Int32.ofNat (15 + 1)) (eaI 15) M2 := by
    intro hz M2 K2 h2 g
    have e53 : mz_i M2 (53, 0) 1 = 0 := (h2.1 53 1 rfl).trans hz
    refine ⟨fun _ => mo_pc (fun z => absurd z (by decide)) (fun _ => ⟨fun _ => ?_, fun z => absurd rfl z⟩), fun z => absurd z (by decide)⟩
    exact ⟨fun z => absurd z (by decide), fun z => absurd z (by decide), fun z => absurd z (by decide), fun z => absurd z (by decide), fun z => absurd z (by decide), fun _ => ⟨1, s0 M2 h2, by decide, fun _ => g, fun z => absurd (by rw [e53]; decide) z⟩, fun n5 n6 n8 n10 n11 n16 => absurd rfl n16⟩
  have rf1 : ¬ mz_i m2 (53, 0) 1 ≤ 0 → ∀ (M2 : MzM) (K2 : MzM → Prop), A2 M2 (mz_si (nB m2 1 a) (30, 0) 32 (Int32.ofNat (spc (L2 43 1) + 1))) L2 → wp_Mo_answer 426 M2 (fun M98 => wp_Mo_endTransfer (mz_i M98 (30, 0) 29) M98 (fun M101 => wp_Mo_answer 226 M101 (fun M104 => clrK a K2 M104))) → wp_Mo_doLine_255 (clrK a K2) (mz_i m2 (47, 0) 1) (mz_i m2 (48, 0) 1) (mz_i m2 (49, 0) 1) (Int32.ofNat (15 + 1)) (eaI 15) M2 := by
    intro hz M2 K2 h2 g
    have e53 : mz_i M2 (53, 0) 1 = mz_i m2 (53, 0) 1 := h2.1 53 1 rfl
    refine ⟨fun _ => mo_pc (fun z => absurd z (by decide)) (fun _ => ⟨fun _ => ?_, fun z => absurd rfl z⟩), fun z => absurd z (by decide)⟩
    exact ⟨fun z => absurd z (by decide), fun z => absurd z (by decide), fun z => absurd z (by decide), fun z => absurd z (by decide), fun z => absurd z (by decide), fun _ => ⟨1, s0 M2 h2, by decide, fun z => absurd (by rw [← e53]; exact z) hz, fun _ => g⟩, fun n5 n6 n8 n10 n11 n16 => absurd rfl n16⟩
  refine ⟨fun z => absurd z (by decide), fun _ => ⟨15, rfl, by decide, fun z => absurd z (by decide), fun z => absurd z (by decide), fun z => absurd z (by decide), fun z => absurd z (by decide), fun z => absurd z (by decide), fun z => absurd z (by decide), fun z => absurd z (by decide), fun z => absurd z (by decide), fun z => absurd z (by decide), fun z => absurd z (by decide), fun _ => ?_, fun n1 n2 n3 n4 n5 n6 n7 n8 n9 n10 n11 => absurd rfl n11⟩⟩
  unfold wp_Ses_abort
  rw [ey]
  rcases s16 with ⟨t1, t2, t3, t4, t5, t6⟩ | ⟨t1, t2, t3, t4, t5⟩ | ⟨t1, t2, t3, t4, t5, n, t6, t7, t8⟩
  · have hE1 := ee_none_1 hE t3
    refine pl_way_none h t2 (fun M3 h3 => ?_)
    rw [t1]
    refine ⟨fun z => absurd rfl z, fun _ => ?_⟩
    rintro _ rfl
    have ht := h3.si (o := (8, 1)) (k := 16) (v := 226) rfl
    refine pl_forget (v := 226) false false false ht rfl (fg_s (by decide)) (fg_2 (by decide)) (fg_2 (by decide)) (fun M9 h9 => ?_)
    have hEE : EE (fgM (mz_si (wEnd (mz_si (mS m1 1 (spc (L1 13 1)) fr vd) (8, 1) 16 0) 1) (8, 1) 16 226) 1 false false false) (lu (lu L1 15 1 ss) 17 1 []) (rEnd (mz_si (nB m2 1 a) (30, 0) 32 (Int32.ofNat (spc (L2 43 1) + 1))) 1) L2 := ⟨hE1.1, ⟨s1, s2, s3, Or.inl ⟨o0, rfl⟩, rfl, s6, s7, Or.inl ⟨rfl, rfl⟩, ⟨rfl, Or.inl rfl⟩, ⟨rfl, 0, by decide, rfl⟩, s11, s12, rfl, rfl, rfl, Or.inl ⟨rfl, rfl, rfl, rfl, rfl, rfl⟩⟩, hE1.2.2⟩
    refine fin5_1 (m1 := m1) (m2 := m2) (v := 226) (a := a) hEE ha ha rfl (by decide) (by decide) (by decide) (by decide) ⟨o0, rfl⟩ ⟨fun _ => rfl, rfl, rfl, rfl, rfl, rfl, rfl, rfl, rfl, rfl⟩ rfl h9 (fun M1' hr => hk M1' (fun M2 K2 h2 hk2 => rf0 t1 M2 K2 h2 (mo_end_n (x := 1) h2 (s0 M2 h2) (by decide) (fun z => absurd (t1.symm.trans z) (by decide)) (fun M5 h5 => hr M5 K2 h5 hk2))))
  · have h53 : ¬ mz_i m2 (53, 0) 1 ≤ 0 := by rw [t1]; decide
    rcases t5 with ⟨t5, t6⟩ | ⟨n, t6, t7, t8⟩
    · have hE1 := ee_none_1 hE t6
      refine pl_way_none h t5 (fun M3 h3 => ?_)
      rw [t1]
      refine ⟨fun _ => ?_, fun z => absurd z (by decide)⟩
      rintro _ rfl
      have ht := h3.si (o := (8, 1)) (k := 16) (v := 426) rfl
      refine pl_forget (v := 426) false false false ht rfl (fg_s (by decide)) (fg_2 (by decide)) (fg_2 (by decide)) (fun M9 h9 => ?_)
      have hEE : EE (fgM (mz_si (wEnd (mz_si (mS m1 1 (spc (L1 13 1)) fr vd) (8, 1) 16 0) 1) (8, 1) 16 426) 1 false false false) (lu (lu L1 15 1 ss) 17 1 []) (rEnd (mz_si (nB m2 1 a) (30, 0) 32 (Int32.ofNat (spc (L2 43 1) + 1))) 1) L2 := ⟨hE1.1, ⟨s1, s2, s3, Or.inl ⟨o0, rfl⟩, rfl, s6, s7, Or.inl ⟨rfl, rfl⟩, ⟨rfl, Or.inl rfl⟩, ⟨rfl, 0, by decide, rfl⟩, s11, s12, rfl, rfl, rfl, Or.inl ⟨rfl, rfl, rfl, rfl, rfl, rfl⟩⟩, hE1.2.2⟩
      refine fin426_1 (m1 := m1) (m2 := m2) (a := a) (nb := (mz_si (nB m2 1 a) (30, 0) 32 (Int32.ofNat (spc (L2 43 1) + 1)))) (L2b := L2) hEE ha ha rfl ⟨o0, rfl⟩ ⟨fun _ => rfl, rfl, rfl, rfl, rfl, rfl, rfl, rfl, rfl, rfl⟩ rfl rfl (fun M2 K2 a' w q ha' hA hkk => mo_end_n (x := 1) hA ha' (by decide) (fun z => absurd (t1.symm.trans z) (by decide)) hkk) h9 (fun M1' hr => hk M1' (fun M2 K2 h2 hk2 => rf1 h53 M2 K2 h2 (hr M2 K2 h2 hk2)))
    · have hE1 := ee_send_1 hE t6.1 t1 t8
      refine pl_way_send h t6.1 t7 (s14.trans t1) (fun M3 h3 => ?_)
      rw [t1]
      refine ⟨fun _ => ?_, fun z => absurd z (by decide)⟩
      rintro _ rfl
      have ht := h3.si (o := (8, 1)) (k := 16) (v := 426) rfl
      refine pl_forget (v := 426) false false false ht rfl (fg_s (by decide)) (fg_2 (by decide)) (fg_2 (by decide)) (fun M9 h9 => ?_)
      have hEE : EE (fgM (mz_si (wEnd (mz_si (mz_si (mS m1 1 (spc (L1 13 1)) fr vd) (8, 1) 16 0) (3, n) 4 (mz_i (mz_si (mS m1 1 (spc (L1 13 1)) fr vd) (8, 1) 16 0) (3, n) 4 - 1)) 1) (8, 1) 16 426) 1 false false false) (lu (lu L1 15 1 ss) 17 1 []) (rEnd (mz_si (nB m2 1 a) (30, 0) 32 (Int32.ofNat (spc (L2 43 1) + 1))) 1) L2 := ⟨hE1.1, ⟨s1, s2, s3, Or.inl ⟨o0, rfl⟩, rfl, s6, s7, Or.inl ⟨rfl, rfl⟩, ⟨rfl, Or.inl rfl⟩, ⟨rfl, 0, by decide, rfl⟩, s11, s12, rfl, rfl, rfl, Or.inl ⟨rfl, rfl, rfl, rfl, rfl, rfl⟩⟩, hE1.2.2⟩
      refine fin426_1 (m1 := m1) (m2 := m2) (a := a) (nb := (mz_si (nB m2 1 a) (30, 0) 32 (Int32.ofNat (spc (L2 43 1) + 1)))) (L2b := L2) hEE ha ha rfl ⟨o0, rfl⟩ ⟨fun _ => rfl, rfl, rfl, rfl, rfl, rfl, rfl, rfl, rfl, rfl⟩ rfl rfl (fun M2 K2 a' w q ha' hA hkk => mo_end_n (x := 1) hA ha' (by decide) (fun z => absurd (t1.symm.trans z) (by decide)) hkk) h9 (fun M1' hr => hk M1' (fun M2 K2 h2 hk2 => rf1 h53 M2 K2 h2 (hr M2 K2 h2 hk2)))
  · have h53 : ¬ mz_i m2 (53, 0) 1 ≤ 0 := by rw [t1]; decide
    by_cases hd : mz_i m2 (55, 0) 1 = 0
    · have hE1 := ee_recv0_1 hE t6.1 t1 t8
      have hd1 : mz_i m1 (16, 1) 3 = 0 := s15.trans hd
      refine pl_way_recv h t6.1 t7 (s14.trans t1) ?_
      rw [if_pos (show mz_i (mz_si (mS m1 1 (spc (L1 13 1)) fr vd) (8, 1) 16 0) (16, 1) 3 = 0 from hd1)]
      intro M3 h3
      rw [t1]
      refine ⟨fun _ => ?_, fun z => absurd z (by decide)⟩
      rintro _ rfl
      have ht := h3.si (o := (8, 1)) (k := 16) (v := 426) rfl
      refine pl_forget (v := 426) false false false ht rfl (fg_s (by decide)) (fg_2 (by decide)) (fg_2 (by decide)) (fun M9 h9 => ?_)
      have hEE : EE (fgM (mz_si (wEnd (mz_si (mz_si (mS m1 1 (spc (L1 13 1)) fr vd) (8, 1) 16 0) (3, n) 5 0) 1) (8, 1) 16 426) 1 false false false) (lu (lu L1 15 1 ss) 17 1 []) (rEnd (mz_si (nB m2 1 a) (30, 0) 32 (Int32.ofNat (spc (L2 43 1) + 1))) 1) L2 := ⟨hE1.1, ⟨s1, s2, s3, Or.inl ⟨o0, rfl⟩, rfl, s6, s7, Or.inl ⟨rfl, rfl⟩, ⟨rfl, Or.inl rfl⟩, ⟨rfl, 0, by decide, rfl⟩, s11, s12, rfl, rfl, rfl, Or.inl ⟨rfl, rfl, rfl, rfl, rfl, rfl⟩⟩, hE1.2.2⟩
      refine fin426_1 (m1 := m1) (m2 := m2) (a := a) (nb := (mz_si (nB m2 1 a) (30, 0) 32 (Int32.ofNat (spc (L2 43 1) + 1)))) (L2b := L2) hEE ha ha rfl ⟨o0, rfl⟩ ⟨fun _ => rfl, rfl, rfl, rfl, rfl, rfl, rfl, rfl, rfl, rfl⟩ rfl rfl (fun M2 K2 a' w q ha' hA hkk => mo_end_n (x := 1) hA ha' (by decide) (fun _ => hd) hkk) h9 (fun M1' hr => hk M1' (fun M2 K2 h2 hk2 => rf1 h53 M2 K2 h2 (hr M2 K2 h2 hk2)))
    · have hE1 := ee_recv1_1 hE t6.1 t1 t8
      have hd1 : ¬ mz_i m1 (16, 1) 3 = 0 := fun z => hd (s15.symm.trans z)
      refine pl_way_recv h t6.1 t7 (s14.trans t1) ?_
      rw [if_neg (show ¬ mz_i (mz_si (mS m1 1 (spc (L1 13 1)) fr vd) (8, 1) 16 0) (16, 1) 3 = 0 from hd1)]
      intro M3 h3
      rw [t1]
      refine ⟨fun _ => ?_, fun z => absurd z (by decide)⟩
      have hend : ∀ (M2 : MzM) (K2 : MzM → Prop) (a' w : Int32) (q : List Int32), a'.toInt = ((1 : Nat) : Int) → A2 M2 (mz_si (mz_si (nB m2 1 a) (30, 0) 32 (Int32.ofNat (spc (L2 43 1) + 1))) (30, 0) 30 w) (lu L2 45 1 q) → (∀ M', A2 M' (rEnd (mz_si (mz_si (nB m2 1 a) (30, 0) 32 (Int32.ofNat (spc (L2 43 1) + 1))) (30, 0) 30 w) 1) (lu (lu L2 38 n (row24 (L2 38 n) 13)) 45 1 q) → K2 M') → wp_Mo_endTransfer a' M2 K2 := by
        intro M2 K2 a' w q ha' hA hkk
        refine mo_end_h (n := n) hA ha' (by decide) t1 t6.1 t8 ?_
        rw [if_neg (show ¬ mz_i (mz_si (mz_si (nB m2 1 a) (30, 0) 32 (Int32.ofNat (spc (L2 43 1) + 1))) (30, 0) 30 w) (55, 0) 1 = 0 from hd)]
        intro M' h'
        refine hkk M' ?_
        have el : lu (lu L2 38 n (row24 (L2 38 n) 13)) 45 1 q = lu (lu L2 45 1 q) 38 n (row24 (lu L2 45 1 q 38 n) 13) := by
          funext u v
          have e38 : lu L2 45 1 q 38 n = L2 38 n := lu_ne L2 _ (fun z => absurd z.1 (by decide))
          rw [e38]
          simp only [lu]
          by_cases hu : u = 45 ∧ v = 1
          · rw [if_pos hu, if_neg (fun z => absurd (z.1.symm.trans hu.1) (by decide)), if_pos hu]
          · rw [if_neg hu, if_neg hu]
        rw [el]
        exact h'
      rintro _ rfl
      have ht := h3.si (o := (8, 1)) (k := 16) (v := 426) rfl
      refine pl_forget (v := 426) false false false ht rfl (fg_s (by decide)) (fg_2 (by decide)) (fg_2 (by decide)) (fun M9 h9 => ?_)
      have hEE : EE (fgM (mz_si (wEnd (mz_si (mz_si (mS m1 1 (spc (L1 13 1)) fr vd) (8, 1) 16 0) (3, n) 5 0) 1) (8, 1) 16 426) 1 false false false) (lu (lu (lu L1 15 1 ss) 5 n (row24 (L1 5 n) 13)) 17 1 []) (rEnd (mz_si (nB m2 1 a) (30, 0) 32 (Int32.ofNat (spc (L2 43 1) + 1))) 1) (lu L2 38 n (row24 (L2 38 n) 13)) := ⟨hE1.1, ⟨s1, s2, s3, Or.inl ⟨o0, rfl⟩, rfl, s6, s7, Or.inl ⟨rfl, rfl⟩, ⟨rfl, Or.inl rfl⟩, ⟨rfl, 0, by decide, rfl⟩, s11, s12, rfl, rfl, rfl, Or.inl ⟨rfl, rfl, rfl, rfl, rfl, rfl⟩⟩, hE1.2.2⟩
      refine fin426_1 (m1 := m1) (m2 := m2) (a := a) (nb := (mz_si (nB m2 1 a) (30, 0) 32 (Int32.ofNat (spc (L2 43 1) + 1)))) (L2b := L2) hEE ha ha rfl ⟨o0, rfl⟩ ⟨fun _ => rfl, rfl, rfl, rfl, rfl, rfl, rfl, rfl, rfl, rfl⟩ rfl rfl hend h9 (fun M1' hr => hk M1' (fun M2 K2 h2 hk2 => rf1 h53 M2 K2 h2 (hr M2 K2 h2 hk2)))
