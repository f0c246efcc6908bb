theorem ob_0_12 : obPred 0 12 := by
  intro m1 m2 M L1 L2 fr vd a ss K hE o0 ha hfit hW hD hA hfr hss h hk
  obtain ⟨s1, s2, s3, s4, s5, s6, s7, s8, s9, s10, s11, s12, s13, s14, s15, s16⟩ := hE.1
  have hcl := spc_le (L1 13 0)
  have h30 : (L1 13 0).length ≤ 30 := (h.line 0).2.1
  have sl : spc (L2 43 0) = spc (L1 13 0) := by rw [s3]
  have hu : ¬ mz_i m1 (8, 0) 7 = 0 := hW.elim (fun z => absurd z (by decide)) id
  have hp : pth (L1 13 0) (spc (L1 13 0) + 1) = some ss := hss ((hz5 hfit).2.2 rfl)
  have hN := hE.2.2.1
  have hr0 := hE.2.2.2.2.1
  have hw0 : ¬ mz_i m2 (46, 0) 0 = 0 := by
    rcases s7 with ⟨p, q⟩ | ⟨p, q⟩ | ⟨p, q⟩
    · exact absurd q hu
    · rw [p]; decide
    · rw [p]; decide
  obtain ⟨tg, pl, htg, hpl, hpn, hcls, href⟩ := path_0 hE ha hu hfr hp h
  refine ⟨fun _ => hcls _ (fun M5 h5 => ⟨12, rfl, by decide, fun z => absurd z (by decide), fun z => absurd z (by decide), fun z => absurd z (by decide), fun _ => ?_, fun z => absurd z (by decide), fun z => absurd z (by decide), fun z => absurd z (by decide), fun z => absurd z (by decide), fun z => absurd z (by decide), fun z => absurd z (by decide), fun n12 n13 n14 n15 n16 n17 n18 n19 n20 n21 => absurd rfl n15⟩), fun z => absurd rfl z⟩
  have e12 : mz_i M5 (8, 0) 12 = tg := h5.1 (8, 0) 12 rfl
  have r53 : mz_i m2 (53, 0) 0 = 0 := s14.symm.trans (hD.elim (fun z => absurd rfl z) id)
  have hasc : (mz_i m1 (8, 0) 8) = 0 ∨ (mz_i m1 (8, 0) 8) = 1 := by rw [s12.1]; exact s12.2
  have hN5 : ∀ n : Nat, n < 16 → nodeE (mz_si (mz_si (mz_si (mS m1 0 (spc (L1 13 0)) fr vd) (8, 0) 16 0) (8, 0) 12 tg) (8, 0) 13 pl) L1 m2 L2 n := fun n hn => hN n hn
  have rfT : ∀ (M2 : MzM) (K2 : MzM → Prop), A2 M2 (mz_si (nB m2 0 a) (30, 0) 32 (Int32.ofNat (spc (L2 43 0) + 1))) L2 → (∀ cc M3, A2 M3 (mz_si (mz_si (mz_si (mz_si (nB m2 0 a) (30, 0) 32 (Int32.ofNat (spc (L2 43 0) + 1))) (30, 0) 33 tg) (30, 0) 34 pl) (30, 0) 35 cc) L2 → (¬ pl = -1 → cc = lsI ss) → wp_Mo_doTransfer (Int32.ofNat (12 + 1)) (mz_i m2 (49, 0) 0) M3 (clrK a K2)) → wp_Mo_doLine_255 (clrK a K2) (mz_i m2 (47, 0) 0) (mz_i m2 (48, 0) 0) (mz_i m2 (49, 0) 0) (Int32.ofNat (12 + 1)) (eaI 12) M2 := by
    intro M2 K2 h2 k0
    exact ⟨fun _ => mo_pc (fun _ => ⟨fun z => absurd z (by decide), fun _ => href M2 _ h2 (fun M3 cc h3 hcc => ⟨fun z => absurd z (by decide), fun _ => ⟨fun z => absurd z (by decide), fun _ => k0 cc M3 h3 hcc⟩⟩)⟩) (fun z => absurd z (by decide)), fun z => absurd z (by decide)⟩
  obtain ⟨k, hk24, ek⟩ := s10.2
  have e11 : mz_i M5 (8, 0) 11 = Int32.ofNat k := (h5.1 (8, 0) 11 rfl).trans (s10.1.trans ek)
  rcases hpl with qpl | ⟨p, hp, epl⟩
  · subst qpl
    by_cases hfil : ∃ n : Nat, filE m2 n ∧ tg = Int32.ofNat n
    · obtain ⟨n, hf, etg⟩ := hfil
      subst etg
      have el : L1 5 n = L2 38 n := ((hN n hf.1).2.2.2.2.2 hf).1
      have l24 : (L1 5 n).length ≤ 24 := (h5.2.2.1 5 4 1 24 n rfl).2.1
      have rB : ∀ (M2 : MzM) (K2 : MzM → Prop), A2 M2 (mz_si (nB m2 0 a) (30, 0) 32 (Int32.ofNat (spc (L2 43 0) + 1))) L2 → (mvd m2 n → ∀ cc M3, A2 M3 (mz_si (mz_si (mz_si (mz_si (nB m2 0 a) (30, 0) 32 (Int32.ofNat (spc (L2 43 0) + 1))) (30, 0) 33 (Int32.ofNat n)) (30, 0) 34 (-1)) (30, 0) 35 cc) L2 → wp_Mo_answer 450 M3 (clrK a K2)) → (¬ mvd m2 n → mz_i m2 (52, 0) 0 = 0 → ∀ cc M3, A2 M3 (mz_si (mz_si (mz_si (mz_si (nB m2 0 a) (30, 0) 32 (Int32.ofNat (spc (L2 43 0) + 1))) (30, 0) 33 (Int32.ofNat n)) (30, 0) 34 (-1)) (30, 0) 35 cc) L2 → wp_Mo_answer 425 M3 (clrK a K2)) → (¬ mvd m2 n → ¬ mz_i m2 (52, 0) 0 = 0 → ¬ k ≤ (L2 38 n).length → ∀ cc M3, A2 M3 (mz_si (mz_si (mz_si (mz_si (nB m2 0 a) (30, 0) 32 (Int32.ofNat (spc (L2 43 0) + 1))) (30, 0) 33 (Int32.ofNat n)) (30, 0) 34 (-1)) (30, 0) 35 cc) L2 → wp_Mo_answer 554 M3 (clrK a K2)) → (¬ mvd m2 n → ¬ mz_i m2 (52, 0) 0 = 0 → k ≤ (L2 38 n).length → ∀ cc M3, A2 M3 (rc2 (mz_si (mz_si (mz_si (mz_si (nB m2 0 a) (30, 0) 32 (Int32.ofNat (spc (L2 43 0) + 1))) (30, 0) 33 (Int32.ofNat n)) (30, 0) 34 (-1)) (30, 0) 35 cc) 0 n) (lu L2 38 n ((L2 38 n).take k)) → wp_Mo_answer 150 M3 (clrK a K2)) → wp_Mo_doLine_255 (clrK a K2) (mz_i m2 (47, 0) 0) (mz_i m2 (48, 0) 0) (mz_i m2 (49, 0) 0) (Int32.ofNat (12 + 1)) (eaI 12) M2 := by
        intro M2 K2 h2 g450 g425 g554 g150
        exact rfT M2 K2 h2 (fun cc M3 h3 _ => mo_rcvB (X := 0) (k := k) (n := n) (m2 := m2) h3 ha (by decide) (by decide) (Or.inr ⟨by decide, ek⟩) hk24 rfl hf rfl rfl rfl rfl (fun y => g450 y cc M3 h3) (fun y y2 => g425 y y2 cc M3 h3) (fun y y2 y3 => g554 y y2 y3 cc M3 h3) (fun y y2 y3 M4 h4 => g150 y y2 y3 cc M4 h4))
      show wp_Ses_receiveFile 0 (mz_i M5 (8, 0) 11) M5 _
      rw [e11]
      refine pl_rcvB (k := k) (n := n) (m1 := m1) (m2 := m2) (L1 := L1) (L1' := L1) (L2 := L2) h5 hE hN5 hk24 rfl rfl hf rfl rfl s13 rfl hasc (fun hm => ?_) (fun hm h52 => ?_) (fun hm h52 hkl => ?_) (fun hm h52 hkl M6 h6 => ?_)
      · skip
        rintro _ rfl
        have ht := h5.si (o := (8, 0)) (k := 16) (v := 450) rfl
        refine pl_forget (v := 450) false false false ht rfl (fg_s (by decide)) (fg_2 (by decide)) (fg_2 (by decide)) (fun M9 h9 => ?_)
        have hEE : ∀ cc : Int32, EE (fgM (mz_si (mz_si (mz_si (mz_si (mS m1 0 (spc (L1 13 0)) fr vd) (8, 0) 16 0) (8, 0) 12 (Int32.ofNat n)) (8, 0) 13 (-1)) (8, 0) 16 450) 0 false false false) (lu L1 15 0 ss) ((mz_si (mz_si (mz_si (mz_si (nB m2 0 a) (30, 0) 32 (Int32.ofNat (spc (L2 43 0) + 1))) (30, 0) 33 (Int32.ofNat n)) (30, 0) 34 (-1)) (30, 0) 35 cc)) L2 := fun cc => ⟨⟨s1, s2, s3, Or.inl ⟨o0, rfl⟩, rfl, s6, s7, Or.inl ⟨rfl, rfl⟩, ⟨rfl, Or.inl rfl⟩, ⟨rfl, 0, by decide, rfl⟩, s11, s12, s13, s14, s15, s16⟩, hE.2.1, hE.2.2⟩
        refine finF_0 (m1 := m1) (m2 := m2) (v := 450) (a := a) (no := fun cc => (mz_si (mz_si (mz_si (mz_si (nB m2 0 a) (30, 0) 32 (Int32.ofNat (spc (L2 43 0) + 1))) (30, 0) 33 (Int32.ofNat n)) (30, 0) 34 (-1)) (30, 0) 35 cc)) hEE ha (fun _ => ha) (fun _ => rfl) (by decide) (by decide) (by decide) (by decide) (fun _ => ⟨o0, rfl⟩) (fun _ => ⟨fun _ => rfl, rfl, rfl, rfl, rfl, rfl, rfl, rfl, rfl, rfl⟩) rfl h9 (fun M1' hr => hk M1' (fun M2 K2 h2 hk2 => rB M2 K2 h2 (fun _ cc M4 h4 => hr cc M4 K2 h4 hk2) (fun z => absurd hm z) (fun z => absurd hm z) (fun z => absurd hm z)))
      · skip
        rintro _ rfl
        have ht := h5.si (o := (8, 0)) (k := 16) (v := 425) rfl
        refine pl_forget (v := 425) false false false ht rfl (fg_s (by decide)) (fg_2 (by decide)) (fg_2 (by decide)) (fun M9 h9 => ?_)
        have hEE : ∀ cc : Int32, EE (fgM (mz_si (mz_si (mz_si (mz_si (mS m1 0 (spc (L1 13 0)) fr vd) (8, 0) 16 0) (8, 0) 12 (Int32.ofNat n)) (8, 0) 13 (-1)) (8, 0) 16 425) 0 false false false) (lu L1 15 0 ss) ((mz_si (mz_si (mz_si (mz_si (nB m2 0 a) (30, 0) 32 (Int32.ofNat (spc (L2 43 0) + 1))) (30, 0) 33 (Int32.ofNat n)) (30, 0) 34 (-1)) (30, 0) 35 cc)) L2 := fun cc => ⟨⟨s1, s2, s3, Or.inl ⟨o0, rfl⟩, rfl, s6, s7, Or.inl ⟨rfl, rfl⟩, ⟨rfl, Or.inl rfl⟩, ⟨rfl, 0, by decide, rfl⟩, s11, s12, s13, s14, s15, s16⟩, hE.2.1, hE.2.2⟩
        refine finF_0 (m1 := m1) (m2 := m2) (v := 425) (a := a) (no := fun cc => (mz_si (mz_si (mz_si (mz_si (nB m2 0 a) (30, 0) 32 (Int32.ofNat (spc (L2 43 0) + 1))) (30, 0) 33 (Int32.ofNat n)) (30, 0) 34 (-1)) (30, 0) 35 cc)) hEE ha (fun _ => ha) (fun _ => rfl) (by decide) (by decide) (by decide) (by decide) (fun _ => ⟨o0, rfl⟩) (fun _ => ⟨fun _ => rfl, rfl, rfl, rfl, rfl, rfl, rfl, rfl, rfl, rfl⟩) rfl h9 (fun M1' hr => hk M1' (fun M2 K2 h2 hk2 => rB M2 K2 h2 (fun z => absurd z hm) (fun _ _ cc M4 h4 => hr cc M4 K2 h4 hk2) (fun _ z => absurd h52 z) (fun _ z => absurd h52 z)))
      · have hkl2 : ¬ k ≤ (L2 38 n).length := by rw [← el]; exact hkl
        rintro _ rfl
        have ht := h5.si (o := (8, 0)) (k := 16) (v := 554) rfl
        refine pl_forget (v := 554) false false false ht rfl (fg_s (by decide)) (fg_2 (by decide)) (fg_2 (by decide)) (fun M9 h9 => ?_)
        have hEE : ∀ cc : Int32, EE (fgM (mz_si (mz_si (mz_si (mz_si (mS m1 0 (spc (L1 13 0)) fr vd) (8, 0) 16 0) (8, 0) 12 (Int32.ofNat n)) (8, 0) 13 (-1)) (8, 0) 16 554) 0 false false false) (lu L1 15 0 ss) ((mz_si (mz_si (mz_si (mz_si (nB m2 0 a) (30, 0) 32 (Int32.ofNat (spc (L2 43 0) + 1))) (30, 0) 33 (Int32.ofNat n)) (30, 0) 34 (-1)) (30, 0) 35 cc)) L2 := fun cc => ⟨⟨s1, s2, s3, Or.inl ⟨o0, rfl⟩, rfl, s6, s7, Or.inl ⟨rfl, rfl⟩, ⟨rfl, Or.inl rfl⟩, ⟨rfl, 0, by decide, rfl⟩, s11, s12, s13, s14, s15, s16⟩, hE.2.1, hE.2.2⟩
        refine finF_0 (m1 := m1) (m2 := m2) (v := 554) (a := a) (no := fun cc => (mz_si (mz_si (mz_si (mz_si (nB m2 0 a) (30, 0) 32 (Int32.ofNat (spc (L2 43 0) + 1))) (30, 0) 33 (Int32.ofNat n)) (30, 0) 34 (-1)) (30, 0) 35 cc)) hEE ha (fun _ => ha) (fun _ => rfl) (by decide) (by decide) (by decide) (by decide) (fun _ => ⟨o0, rfl⟩) (fun _ => ⟨fun _ => rfl, rfl, rfl, rfl, rfl, rfl, rfl, rfl, rfl, rfl⟩) rfl h9 (fun M1' hr => hk M1' (fun M2 K2 h2 hk2 => rB M2 K2 h2 (fun z => absurd z hm) (fun _ z => absurd z h52) (fun _ _ _ cc M4 h4 => hr cc M4 K2 h4 hk2) (fun _ _ z => absurd z hkl2)))
      · have hkl2 : k ≤ (L2 38 n).length := by rw [← el]; exact hkl
        have hE1 := ee_rcv_0 (l1 := (L1 5 n).take k) (l2 := (L2 38 n).take k) hE hf hm r53 (by rw [el])
        have h6' : A1 M6 (rc1 (mz_si (mz_si (mz_si (mS m1 0 (spc (L1 13 0)) fr vd) (8, 0) 16 0) (8, 0) 12 (Int32.ofNat n)) (8, 0) 13 (-1)) 0 n (mz_i m1 (8, 0) 8)) (lu (lu L1 15 0 ss) 5 n ((L1 5 n).take k)) := h6
        obtain ⟨s1, s2, s3, s4, s5, s6, s7, s8, s9, s10, s11, s12, s13, s14, s15, s16⟩ := hE1.1
        rintro _ rfl
        have ht := h6'.si (o := (8, 0)) (k := 16) (v := 150) rfl
        refine pl_forget (v := 150) false false false ht rfl (fg_s (by decide)) (fg_2 (by decide)) (fg_2 (by decide)) (fun M9 h9 => ?_)
        have hEE : ∀ cc : Int32, EE (fgM (mz_si (rc1 (mz_si (mz_si (mz_si (mS m1 0 (spc (L1 13 0)) fr vd) (8, 0) 16 0) (8, 0) 12 (Int32.ofNat n)) (8, 0) 13 (-1)) 0 n (mz_i m1 (8, 0) 8)) (8, 0) 16 150) 0 false false false) (lu (lu L1 15 0 ss) 5 n ((L1 5 n).take k)) (rc2 (mz_si (mz_si (mz_si (mz_si (nB m2 0 a) (30, 0) 32 (Int32.ofNat (spc (L2 43 0) + 1))) (30, 0) 33 (Int32.ofNat n)) (30, 0) 34 (-1)) (30, 0) 35 cc) 0 n) (lu L2 38 n ((L2 38 n).take k)) := fun cc => ⟨⟨s1, s2, s3, Or.inl ⟨o0, rfl⟩, rfl, s6, s7, Or.inl ⟨rfl, rfl⟩, ⟨rfl, Or.inl rfl⟩, ⟨rfl, 0, by decide, rfl⟩, s11, s12, s13, s14, s15, s16⟩, hE1.2⟩
        refine finF_0 (m1 := m1) (m2 := m2) (v := 150) (a := a) (no := fun cc => rc2 (mz_si (mz_si (mz_si (mz_si (nB m2 0 a) (30, 0) 32 (Int32.ofNat (spc (L2 43 0) + 1))) (30, 0) 33 (Int32.ofNat n)) (30, 0) 34 (-1)) (30, 0) 35 cc) 0 n) hEE ha (fun _ => ha) (fun _ => rfl) (by decide) (by decide) (by decide) (by decide) (fun _ => ⟨o0, rfl⟩) (fun _ => ⟨fun _ => rfl, rfl, rfl, rfl, rfl, rfl, rfl, rfl, rfl, rfl⟩) rfl h9 (fun M1' hr => hk M1' (fun M2 K2 h2 hk2 => rB M2 K2 h2 (fun z => absurd z hm) (fun _ z => absurd z h52) (fun _ _ z => absurd hkl2 z) (fun _ _ _ cc M4 h4 => hr cc M4 K2 h4 hk2)))
    · have hz : ∀ n : Nat, ¬ (filE m2 n ∧ tg = Int32.ofNat n) := fun n z => hfil ⟨n, z⟩
      refine pl_rcvC (m2 := m2) (L1 := L1) (L2 := L2) (tg := tg) h5 hN5 rfl rfl hz ?_
      rintro _ rfl
      have ht := h5.si (o := (8, 0)) (k := 16) (v := 550) rfl
      refine pl_forget (v := 550) false false false ht rfl (fg_s (by decide)) (fg_2 (by decide)) (fg_2 (by decide)) (fun M9 h9 => ?_)
      have hEE : ∀ cc : Int32, EE (fgM (mz_si (mz_si (mz_si (mz_si (mS m1 0 (spc (L1 13 0)) fr vd) (8, 0) 16 0) (8, 0) 12 tg) (8, 0) 13 (-1)) (8, 0) 16 550) 0 false false false) (lu L1 15 0 ss) ((mz_si (mz_si (mz_si (mz_si (nB m2 0 a) (30, 0) 32 (Int32.ofNat (spc (L2 43 0) + 1))) (30, 0) 33 tg) (30, 0) 34 (-1)) (30, 0) 35 cc)) L2 := fun cc => ⟨⟨s1, s2, s3, Or.inl ⟨o0, rfl⟩, rfl, s6, s7, Or.inl ⟨rfl, rfl⟩, ⟨rfl, Or.inl rfl⟩, ⟨rfl, 0, by decide, rfl⟩, s11, s12, s13, s14, s15, s16⟩, hE.2.1, hE.2.2⟩
      refine finF_0 (m1 := m1) (m2 := m2) (v := 550) (a := a) (no := fun cc => (mz_si (mz_si (mz_si (mz_si (nB m2 0 a) (30, 0) 32 (Int32.ofNat (spc (L2 43 0) + 1))) (30, 0) 33 tg) (30, 0) 34 (-1)) (30, 0) 35 cc)) hEE ha (fun _ => ha) (fun _ => rfl) (by decide) (by decide) (by decide) (by decide) (fun _ => ⟨o0, rfl⟩) (fun _ => ⟨fun _ => rfl, rfl, rfl, rfl, rfl, rfl, rfl, rfl, rfl, rfl⟩) rfl h9 (fun M1' hr => hk M1' (fun M2 K2 h2 hk2 => rfT M2 K2 h2 (fun cc M3 h3 _ => mo_rcvC (m2 := m2) (tg := tg) h3 (by decide) htg rfl rfl rfl (fun n hn => (hN n hn).2.1) hz (hr cc M3 K2 h3 hk2))))
  · subst epl
    have hpl1 : ¬ Int32.ofNat p = -1 := fun z => nneg hp.1 z.symm
    obtain ⟨qtg, hnm⟩ := hpn hpl1
    subst qtg
    have rA : ∀ (M2 : MzM) (K2 : MzM → Prop), A2 M2 (mz_si (nB m2 0 a) (30, 0) 32 (Int32.ofNat (spc (L2 43 0) + 1))) L2 → (mz_i m2 (52, 0) 0 = 0 → ∀ cc M3, A2 M3 (mz_si (mz_si (mz_si (mz_si (nB m2 0 a) (30, 0) 32 (Int32.ofNat (spc (L2 43 0) + 1))) (30, 0) 33 (-1)) (30, 0) 34 (Int32.ofNat p)) (30, 0) 35 cc) L2 → wp_Mo_answer 425 M3 (clrK a K2)) → (¬ mz_i m2 (52, 0) 0 = 0 → ¬ k = 0 → ∀ cc M3, A2 M3 (mz_si (mz_si (mz_si (mz_si (nB m2 0 a) (30, 0) 32 (Int32.ofNat (spc (L2 43 0) + 1))) (30, 0) 33 (-1)) (30, 0) 34 (Int32.ofNat p)) (30, 0) 35 cc) L2 → wp_Mo_answer 554 M3 (clrK a K2)) → (¬ mz_i m2 (52, 0) 0 = 0 → k = 0 → frN m2 = -1 → ∀ cc M3, A2 M3 (mz_si (mz_si (mz_si (mz_si (nB m2 0 a) (30, 0) 32 (Int32.ofNat (spc (L2 43 0) + 1))) (30, 0) 33 (-1)) (30, 0) 34 (Int32.ofNat p)) (30, 0) 35 cc) L2 → wp_Mo_answer 552 M3 (clrK a K2)) → (¬ mz_i m2 (52, 0) 0 = 0 → k = 0 → ∀ n : Nat, n < 16 → frN m2 = Int32.ofNat n → ∀ cc M3, A2 M3 (rc2 (mk2 (mz_si (mz_si (mz_si (mz_si (nB m2 0 a) (30, 0) 32 (Int32.ofNat (spc (L2 43 0) + 1))) (30, 0) 33 (-1)) (30, 0) 34 (Int32.ofNat p)) (30, 0) 35 cc) n 1 (Int32.ofNat p) (lsI ss) 0) 0 n) (lu L2 38 n []) → wp_Mo_answer 150 M3 (clrK a K2)) → wp_Mo_doLine_255 (clrK a K2) (mz_i m2 (47, 0) 0) (mz_i m2 (48, 0) 0) (mz_i m2 (49, 0) 0) (Int32.ofNat (12 + 1)) (eaI 12) M2 := by
      intro M2 K2 h2 g425 g554 g552 g150
      refine rfT M2 K2 h2 (fun cc M3 h3 hcc => mo_rcvA (X := 0) (k := k) (p := p) (nm := cc) (m2 := m2) h3 ha (by decide) (by decide) (Or.inr ⟨by decide, ek⟩) hk24 rfl rfl hp.1 rfl rfl rfl (fun y => g425 y cc M3 h3) (fun y y2 => g554 y y2 cc M3 h3) (fun y y2 y3 => g552 y y2 y3 cc M3 h3) (fun y y2 n hn hn0 hth hfr M4 h4 => ?_))
      have ec := hcc hpl1
      refine g150 y y2 n hn hfr cc M4 ?_
      rw [← ec]
      exact h4
    show wp_Ses_receiveFile 0 (mz_i M5 (8, 0) 11) M5 _
    rw [e11]
    refine pl_rcvA (k := k) (p := p) (pl := Int32.ofNat p) (nm := lsI ss) (m1 := m1) (m2 := m2) (L1 := L1) (L2 := L2) h5 hN5 hk24 rfl rfl hp.1 s13 rfl hasc (by rw [lu_same]) (fun h52 => ?_) (fun h52 hk0 => ?_) (fun h52 hk0 hfr1 => ?_) (fun h52 hk0 n hn hn0 hth hfr1 M6 h6 => ?_)
    · skip
      rintro _ rfl
      have ht := h5.si (o := (8, 0)) (k := 16) (v := 425) rfl
      refine pl_forget (v := 425) false false false ht rfl (fg_s (by decide)) (fg_2 (by decide)) (fg_2 (by decide)) (fun M9 h9 => ?_)
      have hEE : ∀ cc : Int32, EE (fgM (mz_si (mz_si (mz_si (mz_si (mS m1 0 (spc (L1 13 0)) fr vd) (8, 0) 16 0) (8, 0) 12 (-1)) (8, 0) 13 (Int32.ofNat p)) (8, 0) 16 425) 0 false false false) (lu L1 15 0 ss) ((mz_si (mz_si (mz_si (mz_si (nB m2 0 a) (30, 0) 32 (Int32.ofNat (spc (L2 43 0) + 1))) (30, 0) 33 (-1)) (30, 0) 34 (Int32.ofNat p)) (30, 0) 35 cc)) L2 := fun cc => ⟨⟨s1, s2, s3, Or.inl ⟨o0, rfl⟩, rfl, s6, s7, Or.inl ⟨rfl, rfl⟩, ⟨rfl, Or.inl rfl⟩, ⟨rfl, 0, by decide, rfl⟩, s11, s12, s13, s14, s15, s16⟩, hE.2.1, hE.2.2⟩
      refine finF_0 (m1 := m1) (m2 := m2) (v := 425) (a := a) (no := fun cc => (mz_si (mz_si (mz_si (mz_si (nB m2 0 a) (30, 0) 32 (Int32.ofNat (spc (L2 43 0) + 1))) (30, 0) 33 (-1)) (30, 0) 34 (Int32.ofNat p)) (30, 0) 35 cc)) hEE ha (fun _ => ha) (fun _ => rfl) (by decide) (by decide) (by decide) (by decide) (fun _ => ⟨o0, rfl⟩) (fun _ => ⟨fun _ => rfl, rfl, rfl, rfl, rfl, rfl, rfl, rfl, rfl, rfl⟩) rfl h9 (fun M1' hr => hk M1' (fun M2 K2 h2 hk2 => rA M2 K2 h2 (fun _ cc M4 h4 => hr cc M4 K2 h4 hk2) (fun z => absurd h52 z) (fun z => absurd h52 z) (fun z => absurd h52 z)))
    · skip
      rintro _ rfl
      have ht := h5.si (o := (8, 0)) (k := 16) (v := 554) rfl
      refine pl_forget (v := 554) false false false ht rfl (fg_s (by decide)) (fg_2 (by decide)) (fg_2 (by decide)) (fun M9 h9 => ?_)
      have hEE : ∀ cc : Int32, EE (fgM (mz_si (mz_si (mz_si (mz_si (mS m1 0 (spc (L1 13 0)) fr vd) (8, 0) 16 0) (8, 0) 12 (-1)) (8, 0) 13 (Int32.ofNat p)) (8, 0) 16 554) 0 false false false) (lu L1 15 0 ss) ((mz_si (mz_si (mz_si (mz_si (nB m2 0 a) (30, 0) 32 (Int32.ofNat (spc (L2 43 0) + 1))) (30, 0) 33 (-1)) (30, 0) 34 (Int32.ofNat p)) (30, 0) 35 cc)) L2 := fun cc => ⟨⟨s1, s2, s3, Or.inl ⟨o0, rfl⟩, rfl, s6, s7, Or.inl ⟨rfl, rfl⟩, ⟨rfl, Or.inl rfl⟩, ⟨rfl, 0, by decide, rfl⟩, s11, s12, s13, s14, s15, s16⟩, hE.2.1, hE.2.2⟩
      refine finF_0 (m1 := m1) (m2 := m2) (v := 554) (a := a) (no := fun cc => (mz_si (mz_si (mz_si (mz_si (nB m2 0 a) (30, 0) 32 (Int32.ofNat (spc (L2 43 0) + 1))) (30, 0) 33 (-1)) (30, 0) 34 (Int32.ofNat p)) (30, 0) 35 cc)) hEE ha (fun _ => ha) (fun _ => rfl) (by decide) (by decide) (by decide) (by decide) (fun _ => ⟨o0, rfl⟩) (fun _ => ⟨fun _ => rfl, rfl, rfl, rfl, rfl, rfl, rfl, rfl, rfl, rfl⟩) rfl h9 (fun M1' hr => hk M1' (fun M2 K2 h2 hk2 => rA M2 K2 h2 (fun z => absurd z h52) (fun _ _ cc M4 h4 => hr cc M4 K2 h4 hk2) (fun _ z => absurd z hk0) (fun _ z => absurd z hk0)))
    · skip
      rintro _ rfl
      have ht := h5.si (o := (8, 0)) (k := 16) (v := 552) rfl
      refine pl_forget (v := 552) false false false ht rfl (fg_s (by decide)) (fg_2 (by decide)) (fg_2 (by decide)) (fun M9 h9 => ?_)
      have hEE : ∀ cc : Int32, EE (fgM (mz_si (mz_si (mz_si (mz_si (mS m1 0 (spc (L1 13 0)) fr vd) (8, 0) 16 0) (8, 0) 12 (-1)) (8, 0) 13 (Int32.ofNat p)) (8, 0) 16 552) 0 false false false) (lu L1 15 0 ss) ((mz_si (mz_si (mz_si (mz_si (nB m2 0 a) (30, 0) 32 (Int32.ofNat (spc (L2 43 0) + 1))) (30, 0) 33 (-1)) (30, 0) 34 (Int32.ofNat p)) (30, 0) 35 cc)) L2 := fun cc => ⟨⟨s1, s2, s3, Or.inl ⟨o0, rfl⟩, rfl, s6, s7, Or.inl ⟨rfl, rfl⟩, ⟨rfl, Or.inl rfl⟩, ⟨rfl, 0, by decide, rfl⟩, s11, s12, s13, s14, s15, s16⟩, hE.2.1, hE.2.2⟩
      refine finF_0 (m1 := m1) (m2 := m2) (v := 552) (a := a) (no := fun cc => (mz_si (mz_si (mz_si (mz_si (nB m2 0 a) (30, 0) 32 (Int32.ofNat (spc (L2 43 0) + 1))) (30, 0) 33 (-1)) (30, 0) 34 (Int32.ofNat p)) (30, 0) 35 cc)) hEE ha (fun _ => ha) (fun _ => rfl) (by decide) (by decide) (by decide) (by decide) (fun _ => ⟨o0, rfl⟩) (fun _ => ⟨fun _ => rfl, rfl, rfl, rfl, rfl, rfl, rfl, rfl, rfl, rfl⟩) rfl h9 (fun M1' hr => hk M1' (fun M2 K2 h2 hk2 => rA M2 K2 h2 (fun z => absurd z h52) (fun _ z => absurd hk0 z) (fun _ _ _ cc M4 h4 => hr cc M4 K2 h4 hk2) (fun _ _ n hn z => absurd (hfr1.symm.trans z) (nneg hn))))
    · have hE0 := ee_mk (kd := 2) (fl := 1) (sr := 0) hE hn hn0 hth hp hnm (Or.inl ⟨rfl, rfl⟩)
      have hb := mk2_n m2 n 1 (Int32.ofNat p) (lsI ss) 0
      have hf0 : filE (mk2 m2 n 1 (Int32.ofNat p) (lsI ss) 0) n := ⟨hn, hb.1, hb.2.1⟩
      have hm0 : ¬ mvd (mk2 m2 n 1 (Int32.ofNat p) (lsI ss) 0) n := by
        rintro ⟨x, hx, _, e⟩
        exact absurd (hth.symm.trans (mv_fil hE hx hn e).2.1) (by decide)
      have hE1 := ee_rcv_0 (l1 := []) (l2 := []) hE0 hf0 hm0 r53 rfl
      rw [lu_lu, lu_lu] at hE1
      obtain ⟨s1, s2, s3, s4, s5, s6, s7, s8, s9, s10, s11, s12, s13, s14, s15, s16⟩ := hE1.1
      rintro _ rfl
      have ht := h6.si (o := (8, 0)) (k := 16) (v := 150) rfl
      refine pl_forget (v := 150) false false false ht rfl (fg_s (by decide)) (fg_2 (by decide)) (fg_2 (by decide)) (fun M9 h9 => ?_)
      have hEE : ∀ cc : Int32, EE (fgM (mz_si (rc1 (mk1 (mz_si (mz_si (mz_si (mS m1 0 (spc (L1 13 0)) fr vd) (8, 0) 16 0) (8, 0) 12 (-1)) (8, 0) 13 (Int32.ofNat p)) n 2 (Int32.ofNat p) (lsI ss)) 0 n (mz_i m1 (8, 0) 8)) (8, 0) 16 150) 0 false false false) (lu (lu L1 15 0 ss) 5 n []) (rc2 (mk2 (mz_si (mz_si (mz_si (mz_si (nB m2 0 a) (30, 0) 32 (Int32.ofNat (spc (L2 43 0) + 1))) (30, 0) 33 (-1)) (30, 0) 34 (Int32.ofNat p)) (30, 0) 35 cc) n 1 (Int32.ofNat p) (lsI ss) 0) 0 n) (lu L2 38 n []) := fun cc => ⟨⟨s1, s2, s3, Or.inl ⟨o0, rfl⟩, rfl, s6, s7, Or.inl ⟨rfl, rfl⟩, ⟨rfl, Or.inl rfl⟩, ⟨rfl, 0, by decide, rfl⟩, s11, s12, s13, s14, s15, s16⟩, hE1.2⟩
      refine finF_0 (m1 := m1) (m2 := m2) (v := 150) (a := a) (no := fun cc => rc2 (mk2 (mz_si (mz_si (mz_si (mz_si (nB m2 0 a) (30, 0) 32 (Int32.ofNat (spc (L2 43 0) + 1))) (30, 0) 33 (-1)) (30, 0) 34 (Int32.ofNat p)) (30, 0) 35 cc) n 1 (Int32.ofNat p) (lsI ss) 0) 0 n) hEE ha (fun _ => ha) (fun _ => rfl) (by decide) (by decide) (by decide) (by decide) (fun _ => ⟨o0, rfl⟩) (fun _ => ⟨fun _ => rfl, rfl, rfl, rfl, rfl, rfl, rfl, rfl, rfl, rfl⟩) rfl h9 (fun M1' hr => hk M1' (fun M2 K2 h2 hk2 => rA M2 K2 h2 (fun z => absurd z h52) (fun _ z => absurd hk0 z) (fun _ _ z => absurd (z.symm.trans hfr1) (nneg hn)) (fun _ _ n' hn' hfr' cc M4 h4 => ?_)))
      have en := ofN_inj (by omega) (by omega) (hfr1.symm.trans hfr')
      subst en
      exact hr cc M4 K2 h4 hk2
theorem ob_0_13 : obPred 0 13 := by
  intro m1 m2 M L1 L2 fr vd a ss K hE o0 ha hfit hW hD hA hfr hss h hk
  obtain ⟨s1, s2, s3, s4, s5, s6, s7, s8, s9, s10, s11, s12, s13, s14, s15, s16⟩ := hE.1
  have hcl := spc_le (L1 13 0)
  have h30 : (L1 13 0).length ≤ 30 := (h.line 0).2.1
  have sl : spc (L2 43 0) = spc (L1 13 0) := by rw [s3]
  have hu : ¬ mz_i m1 (8, 0) 7 = 0 := hW.elim (fun z => absurd z (by decide)) id
  have hp : pth (L1 13 0) (spc (L1 13 0) + 1) = some ss := hss ((hz5 hfit).2.2 rfl)
  have hN := hE.2.2.1
  have hr0 := hE.2.2.2.2.1
  have hw0 : ¬ mz_i m2 (46, 0) 0 = 0 := by
    rcases s7 with ⟨p, q⟩ | ⟨p, q⟩ | ⟨p, q⟩
    · exact absurd q hu
    · rw [p]; decide
    · rw [p]; decide
  obtain ⟨tg, pl, htg, hpl, hpn, hcls, href⟩ := path_0 hE ha hu hfr hp h
  refine ⟨fun _ => hcls _ (fun M5 h5 => ⟨13, rfl, by decide, fun z => absurd z (by decide), fun z => absurd z (by decide), fun z => absurd z (by decide), fun z => absurd z (by decide), fun _ => ?_, fun z => absurd z (by decide), fun z => absurd z (by decide), fun z => absurd z (by decide), fun z => absurd z (by decide), fun z => absurd z (by decide), fun n12 n13 n14 n15 n16 n17 n18 n19 n20 n21 => absurd rfl n16⟩), fun z => absurd rfl z⟩
  have e12 : mz_i M5 (8, 0) 12 = tg := h5.1 (8, 0) 12 rfl
  have r53 : mz_i m2 (53, 0) 0 = 0 := s14.symm.trans (hD.elim (fun z => absurd rfl z) id)
  have hasc : (mz_i m1 (8, 0) 8) = 0 ∨ (mz_i m1 (8, 0) 8) = 1 := by rw [s12.1]; exact s12.2
  have hN5 : ∀ n : Nat, n < 16 → nodeE (mz_si (mz_si (mz_si (mS m1 0 (spc (L1 13 0)) fr vd) (8, 0) 16 0) (8, 0) 12 tg) (8, 0) 13 pl) L1 m2 L2 n := fun n hn => hN n hn
  have rfT : ∀ (M2 : MzM) (K2 : MzM → Prop), A2 M2 (mz_si (nB m2 0 a) (30, 0) 32 (Int32.ofNat (spc (L2 43 0) + 1))) L2 → (∀ cc M3, A2 M3 (mz_si (mz_si (mz_si (mz_si (nB m2 0 a) (30, 0) 32 (Int32.ofNat (spc (L2 43 0) + 1))) (30, 0) 33 tg) (30, 0) 34 pl) (30, 0) 35 cc) L2 → (¬ pl = -1 → cc = lsI ss) → wp_Mo_doTransfer (Int32.ofNat (13 + 1)) (mz_i m2 (49, 0) 0) M3 (clrK a K2)) → wp_Mo_doLine_255 (clrK a K2) (mz_i m2 (47, 0) 0) (mz_i m2 (48, 0) 0) (mz_i m2 (49, 0) 0) (Int32.ofNat (13 + 1)) (eaI 13) M2 := by
    intro M2 K2 h2 k0
    exact ⟨fun _ => mo_pc (fun _ => ⟨fun z => absurd z (by decide), fun _ => href M2 _ h2 (fun M3 cc h3 hcc => ⟨fun z => absurd z (by decide), fun _ => ⟨fun z => absurd z (by decide), fun _ => k0 cc M3 h3 hcc⟩⟩)⟩) (fun z => absurd z (by decide)), fun z => absurd z (by decide)⟩
  rcases hpl with qpl | ⟨p, hp, epl⟩
  · subst qpl
    by_cases hfil : ∃ n : Nat, filE m2 n ∧ tg = Int32.ofNat n
    · obtain ⟨n, hf, etg⟩ := hfil
      subst etg
      have el : L1 5 n = L2 38 n := ((hN n hf.1).2.2.2.2.2 hf).1
      have l24 : (L1 5 n).length ≤ 24 := (h5.2.2.1 5 4 1 24 n rfl).2.1
      have rB : ∀ (M2 : MzM) (K2 : MzM → Prop), A2 M2 (mz_si (nB m2 0 a) (30, 0) 32 (Int32.ofNat (spc (L2 43 0) + 1))) L2 → (mvd m2 n → ∀ cc M3, A2 M3 (mz_si (mz_si (mz_si (mz_si (nB m2 0 a) (30, 0) 32 (Int32.ofNat (spc (L2 43 0) + 1))) (30, 0) 33 (Int32.ofNat n)) (30, 0) 34 (-1)) (30, 0) 35 cc) L2 → wp_Mo_answer 450 M3 (clrK a K2)) → (¬ mvd m2 n → mz_i m2 (52, 0) 0 = 0 → ∀ cc M3, A2 M3 (mz_si (mz_si (mz_si (mz_si (nB m2 0 a) (30, 0) 32 (Int32.ofNat (spc (L2 43 0) + 1))) (30, 0) 33 (Int32.ofNat n)) (30, 0) 34 (-1)) (30, 0) 35 cc) L2 → wp_Mo_answer 425 M3 (clrK a K2)) → (¬ mvd m2 n → ¬ mz_i m2 (52, 0) 0 = 0 → ¬ (L2 38 n).length ≤ (L2 38 n).length → ∀ cc M3, A2 M3 (mz_si (mz_si (mz_si (mz_si (nB m2 0 a) (30, 0) 32 (Int32.ofNat (spc (L2 43 0) + 1))) (30, 0) 33 (Int32.ofNat n)) (30, 0) 34 (-1)) (30, 0) 35 cc) L2 → wp_Mo_answer 554 M3 (clrK a K2)) → (¬ mvd m2 n → ¬ mz_i m2 (52, 0) 0 = 0 → (L2 38 n).length ≤ (L2 38 n).length → ∀ cc M3, A2 M3 (rc2 (mz_si (mz_si (mz_si (mz_si (nB m2 0 a) (30, 0) 32 (Int32.ofNat (spc (L2 43 0) + 1))) (30, 0) 33 (Int32.ofNat n)) (30, 0) 34 (-1)) (30, 0) 35 cc) 0 n) (lu L2 38 n ((L2 38 n).take (L2 38 n).length)) → wp_Mo_answer 150 M3 (clrK a K2)) → wp_Mo_doLine_255 (clrK a K2) (mz_i m2 (47, 0) 0) (mz_i m2 (48, 0) 0) (mz_i m2 (49, 0) 0) (Int32.ofNat (13 + 1)) (eaI 13) M2 := by
        intro M2 K2 h2 g450 g425 g554 g150
        exact rfT M2 K2 h2 (fun cc M3 h3 _ => mo_rcvB (X := 0) (k := (L2 38 n).length) (n := n) (m2 := m2) h3 ha (by decide) (by decide) (Or.inl ⟨rfl, rfl⟩) (by rw [← el]; exact l24) rfl hf rfl rfl rfl rfl (fun y => g450 y cc M3 h3) (fun y y2 => g425 y y2 cc M3 h3) (fun y y2 y3 => g554 y y2 y3 cc M3 h3) (fun y y2 y3 M4 h4 => g150 y y2 y3 cc M4 h4))
      refine pl_tsize (m1 := m1) (m2 := m2) (L1 := L1) (L2 := L2) (tg := Int32.ofNat n) h5 hN5 rfl (fun n' hf' e' => ?_) (fun hz => absurd ⟨hf, rfl⟩ (hz n))
      have en := ofN_inj (by have := hf.1; omega) (by have := hf'.1; omega) e'
      subst en
      show wp_Ses_receiveFile 0 (Int32.ofNat (L1 5 n).length) M5 _
      rw [el]
      refine pl_rcvB (k := (L2 38 n).length) (n := n) (m1 := m1) (m2 := m2) (L1 := L1) (L1' := L1) (L2 := L2) h5 hE hN5 (by rw [← el]; exact l24) rfl rfl hf rfl rfl s13 rfl hasc (fun hm => ?_) (fun hm h52 => ?_) (fun hm h52 hkl => ?_) (fun hm h52 hkl M6 h6 => ?_)
      · skip
        rintro _ rfl
        have ht := h5.si (o := (8, 0)) (k := 16) (v := 450) rfl
        refine pl_forget (v := 450) false false false ht rfl (fg_s (by decide)) (fg_2 (by decide)) (fg_2 (by decide)) (fun M9 h9 => ?_)
        have hEE : ∀ cc : Int32, EE (fgM (mz_si (mz_si (mz_si (mz_si (mS m1 0 (spc (L1 13 0)) fr vd) (8, 0) 16 0) (8, 0) 12 (Int32.ofNat n)) (8, 0) 13 (-1)) (8, 0) 16 450) 0 false false false) (lu L1 15 0 ss) ((mz_si (mz_si (mz_si (mz_si (nB m2 0 a) (30, 0) 32 (Int32.ofNat (spc (L2 43 0) + 1))) (30, 0) 33 (Int32.ofNat n)) (30, 0) 34 (-1)) (30, 0) 35 cc)) L2 := fun cc => ⟨⟨s1, s2, s3, Or.inl ⟨o0, rfl⟩, rfl, s6, s7, Or.inl ⟨rfl, rfl⟩, ⟨rfl, Or.inl rfl⟩, ⟨rfl, 0, by decide, rfl⟩, s11, s12, s13, s14, s15, s16⟩, hE.2.1, hE.2.2⟩
        refine finF_0 (m1 := m1) (m2 := m2) (v := 450) (a := a) (no := fun cc => (mz_si (mz_si (mz_si (mz_si (nB m2 0 a) (30, 0) 32 (Int32.ofNat (spc (L2 43 0) + 1))) (30, 0) 33 (Int32.ofNat n)) (30, 0) 34 (-1)) (30, 0) 35 cc)) hEE ha (fun _ => ha) (fun _ => rfl) (by decide) (by decide) (by decide) (by decide) (fun _ => ⟨o0, rfl⟩) (fun _ => ⟨fun _ => rfl, rfl, rfl, rfl, rfl, rfl, rfl, rfl, rfl, rfl⟩) rfl h9 (fun M1' hr => hk M1' (fun M2 K2 h2 hk2 => rB M2 K2 h2 (fun _ cc M4 h4 => hr cc M4 K2 h4 hk2) (fun z => absurd hm z) (fun z => absurd hm z) (fun z => absurd hm z)))
      · skip
        rintro _ rfl
        have ht := h5.si (o := (8, 0)) (k := 16) (v := 425) rfl
        refine pl_forget (v := 425) false false false ht rfl (fg_s (by decide)) (fg_2 (by decide)) (fg_2 (by decide)) (fun M9 h9 => ?_)
        have hEE : ∀ cc : Int32, EE (fgM (mz_si (mz_si (mz_si (mz_si (mS m1 0 (spc (L1 13 0)) fr vd) (8, 0) 16 0) (8, 0) 12 (Int32.ofNat n)) (8, 0) 13 (-1)) (8, 0) 16 425) 0 false false false) (lu L1 15 0 ss) ((mz_si (mz_si (mz_si (mz_si (nB m2 0 a) (30, 0) 32 (Int32.ofNat (spc (L2 43 0) + 1))) (30, 0) 33 (Int32.ofNat n)) (30, 0) 34 (-1)) (30, 0) 35 cc)) L2 := fun cc => ⟨⟨s1, s2, s3, Or.inl ⟨o0, rfl⟩, rfl, s6, s7, Or.inl ⟨rfl, rfl⟩, ⟨rfl, Or.inl rfl⟩, ⟨rfl, 0, by decide, rfl⟩, s11, s12, s13, s14, s15, s16⟩, hE.2.1, hE.2.2⟩
        refine finF_0 (m1 := m1) (m2 := m2) (v := 425) (a := a) (no := fun cc => (mz_si (mz_si (mz_si (mz_si (nB m2 0 a) (30, 0) 32 (Int32.ofNat (spc (L2 43 0) + 1))) (30, 0) 33 (Int32.ofNat n)) (30, 0) 34 (-1)) (30, 0) 35 cc)) hEE ha (fun _ => ha) (fun _ => rfl) (by decide) (by decide) (by decide) (by decide) (fun _ => ⟨o0, rfl⟩) (fun _ => ⟨fun _ => rfl, rfl, rfl, rfl, rfl, rfl, rfl, rfl, rfl, rfl⟩) rfl h9 (fun M1' hr => hk M1' (fun M2 K2 h2 hk2 => rB M2 K2 h2 (fun z => absurd z hm) (fun _ _ cc M4 h4 => hr cc M4 K2 h4 hk2) (fun _ z => absurd h52 z) (fun _ z => absurd h52 z)))
      · have hkl2 : ¬ (L2 38 n).length ≤ (L2 38 n).length := fun _ => hkl (by show (L2 38 n).length ≤ (L1 5 n).length; rw [el]; exact Nat.le_refl _)
        rintro _ rfl
        have ht := h5.si (o := (8, 0)) (k := 16) (v := 554) rfl
        refine pl_forget (v := 554) false false false ht rfl (fg_s (by decide)) (fg_2 (by decide)) (fg_2 (by decide)) (fun M9 h9 => ?_)
        have hEE : ∀ cc : Int32, EE (fgM (mz_si (mz_si (mz_si (mz_si (mS m1 0 (spc (L1 13 0)) fr vd) (8, 0) 16 0) (8, 0) 12 (Int32.ofNat n)) (8, 0) 13 (-1)) (8, 0) 16 554) 0 false false false) (lu L1 15 0 ss) ((mz_si (mz_si (mz_si (mz_si (nB m2 0 a) (30, 0) 32 (Int32.ofNat (spc (L2 43 0) + 1))) (30, 0) 33 (Int32.ofNat n)) (30, 0) 34 (-1)) (30, 0) 35 cc)) L2 := fun cc => ⟨⟨s1, s2, s3, Or.inl ⟨o0, rfl⟩, rfl, s6, s7, Or.inl ⟨rfl, rfl⟩, ⟨rfl, Or.inl rfl⟩, ⟨rfl, 0, by decide, rfl⟩, s11, s12, s13, s14, s15, s16⟩, hE.2.1, hE.2.2⟩
        refine finF_0 (m1 := m1) (m2 := m2) (v := 554) (a := a) (no := fun cc => (mz_si (mz_si (mz_si (mz_si (nB m2 0 a) (30, 0) 32 (Int32.ofNat (spc (L2 43 0) + 1))) (30, 0) 33 (Int32.ofNat n)) (30, 0) 34 (-1)) (30, 0) 35 cc)) hEE ha (fun _ => ha) (fun _ => rfl) (by decide) (by decide) (by decide) (by decide) (fun _ => ⟨o0, rfl⟩) (fun _ => ⟨fun _ => rfl, rfl, rfl, rfl, rfl, rfl, rfl, rfl, rfl, rfl⟩) rfl h9 (fun M1' hr => hk M1' (fun M2 K2 h2 hk2 => rB M2 K2 h2 (fun z => absurd z hm) (fun _ z => absurd z h52) (fun _ _ _ cc M4 h4 => hr cc M4 K2 h4 hk2) (fun _ _ z => absurd z hkl2)))
      · have hkl2 : (L2 38 n).length ≤ (L2 38 n).length := Nat.le_refl _
        have hE1 := ee_rcv_0 (l1 := (L1 5 n).take (L2 38 n).length) (l2 := (L2 38 n).take (L2 38 n).length) hE hf hm r53 (by rw [el])
        have h6' : A1 M6 (rc1 (mz_si (mz_si (mz_si (mS m1 0 (spc (L1 13 0)) fr vd) (8, 0) 16 0) (8, 0) 12 (Int32.ofNat n)) (8, 0) 13 (-1)) 0 n (mz_i m1 (8, 0) 8)) (lu (lu L1 15 0 ss) 5 n ((L1 5 n).take (L2 38 n).length)) := h6
        obtain ⟨s1, s2, s3, s4, s5, s6, s7, s8, s9, s10, s11, s12, s13, s14, s15, s16⟩ := hE1.1
        rintro _ rfl
        have ht := h6'.si (o := (8, 0)) (k := 16) (v := 150) rfl
        refine pl_forget (v := 150) false false false ht rfl (fg_s (by decide)) (fg_2 (by decide)) (fg_2 (by decide)) (fun M9 h9 => ?_)
        have hEE : ∀ cc : Int32, EE (fgM (mz_si (rc1 (mz_si (mz_si (mz_si (mS m1 0 (spc (L1 13 0)) fr vd) (8, 0) 16 0) (8, 0) 12 (Int32.ofNat n)) (8, 0) 13 (-1)) 0 n (mz_i m1 (8, 0) 8)) (8, 0) 16 150) 0 false false false) (lu (lu L1 15 0 ss) 5 n ((L1 5 n).take (L2 38 n).length)) (rc2 (mz_si (mz_si (mz_si (mz_si (nB m2 0 a) (30, 0) 32 (Int32.ofNat (spc (L2 43 0) + 1))) (30, 0) 33 (Int32.ofNat n)) (30, 0) 34 (-1)) (30, 0) 35 cc) 0 n) (lu L2 38 n ((L2 38 n).take (L2 38 n).length)) := fun cc => ⟨⟨s1, s2, s3, Or.inl ⟨o0, rfl⟩, rfl, s6, s7, Or.inl ⟨rfl, rfl⟩, ⟨rfl, Or.inl rfl⟩, ⟨rfl, 0, by decide, rfl⟩, s11, s12, s13, s14, s15, s16⟩, hE1.2⟩
        refine finF_0 (m1 := m1) (m2 := m2) (v := 150) (a := a) (no := fun cc => rc2 (mz_si (mz_si (mz_si (mz_si (nB m2 0 a) (30, 0) 32 (Int32.ofNat (spc (L2 43 0) + 1))) (30, 0) 33 (Int32.ofNat n)) (30, 0) 34 (-1)) (30, 0) 35 cc) 0 n) hEE ha (fun _ => ha) (fun _ => rfl) (by decide) (by decide) (by decide) (by decide) (fun _ => ⟨o0, rfl⟩) (fun _ => ⟨fun _ => rfl, rfl, rfl, rfl, rfl, rfl, rfl, rfl, rfl, rfl⟩) rfl h9 (fun M1' hr => hk M1' (fun M2 K2 h2 hk2 => rB M2 K2 h2 (fun z => absurd z hm) (fun _ z => absurd z h52) (fun _ _ z => absurd hkl2 z) (fun _ _ _ cc M4 h4 => hr cc M4 K2 h4 hk2)))
    · have hz : ∀ n : Nat, ¬ (filE m2 n ∧ tg = Int32.ofNat n) := fun n z => hfil ⟨n, z⟩
      refine pl_tsize (m1 := m1) (m2 := m2) (L1 := L1) (L2 := L2) (tg := tg) h5 hN5 rfl (fun n' hf' e' => absurd ⟨hf', e'⟩ (hz n')) (fun _ => ?_)
      refine pl_rcvC (m2 := m2) (L1 := L1) (L2 := L2) (tg := tg) h5 hN5 rfl rfl hz ?_
      rintro _ rfl
      have ht := h5.si (o := (8, 0)) (k := 16) (v := 550) rfl
      refine pl_forget (v := 550) false false false ht rfl (fg_s (by decide)) (fg_2 (by decide)) (fg_2 (by decide)) (fun M9 h9 => ?_)
      have hEE : ∀ cc : Int32, EE (fgM (mz_si (mz_si (mz_si (mz_si (mS m1 0 (spc (L1 13 0)) fr vd) (8, 0) 16 0) (8, 0) 12 tg) (8, 0) 13 (-1)) (8, 0) 16 550) 0 false false false) (lu L1 15 0 ss) ((mz_si (mz_si (mz_si (mz_si (nB m2 0 a) (30, 0) 32 (Int32.ofNat (spc (L2 43 0) + 1))) (30, 0) 33 tg) (30, 0) 34 (-1)) (30, 0) 35 cc)) L2 := fun cc => ⟨⟨s1, s2, s3, Or.inl ⟨o0, rfl⟩, rfl, s6, s7, Or.inl ⟨rfl, rfl⟩, ⟨rfl, Or.inl rfl⟩, ⟨rfl, 0, by decide, rfl⟩, s11, s12, s13, s14, s15, s16⟩, hE.2.1, hE.2.2⟩
      refine finF_0 (m1 := m1) (m2 := m2) (v := 550) (a := a) (no := fun cc => (mz_si (mz_si (mz_si (mz_si (nB m2 0 a) (30, 0) 32 (Int32.ofNat (spc (L2 43 0) + 1))) (30, 0) 33 tg) (30, 0) 34 (-1)) (30, 0) 35 cc)) hEE ha (fun _ => ha) (fun _ => rfl) (by decide) (by decide) (by decide) (by decide) (fun _ => ⟨o0, rfl⟩) (fun _ => ⟨fun _ => rfl, rfl, rfl, rfl, rfl, rfl, rfl, rfl, rfl, rfl⟩) rfl h9 (fun M1' hr => hk M1' (fun M2 K2 h2 hk2 => rfT M2 K2 h2 (fun cc M3 h3 _ => mo_rcvC (m2 := m2) (tg := tg) h3 (by decide) htg rfl rfl rfl (fun n hn => (hN n hn).2.1) hz (hr cc M3 K2 h3 hk2))))
  · subst epl
    have hpl1 : ¬ Int32.ofNat p = -1 := fun z => nneg hp.1 z.symm
    obtain ⟨qtg, hnm⟩ := hpn hpl1
    subst qtg
    have rA : ∀ (M2 : MzM) (K2 : MzM → Prop), A2 M2 (mz_si (nB m2 0 a) (30, 0) 32 (Int32.ofNat (spc (L2 43 0) + 1))) L2 → (mz_i m2 (52, 0) 0 = 0 → ∀ cc M3, A2 M3 (mz_si (mz_si (mz_si (mz_si (nB m2 0 a) (30, 0) 32 (Int32.ofNat (spc (L2 43 0) + 1))) (30, 0) 33 (-1)) (30, 0) 34 (Int32.ofNat p)) (30, 0) 35 cc) L2 → wp_Mo_answer 425 M3 (clrK a K2)) → (¬ mz_i m2 (52, 0) 0 = 0 → ¬ 0 = 0 → ∀ cc M3, A2 M3 (mz_si (mz_si (mz_si (mz_si (nB m2 0 a) (30, 0) 32 (Int32.ofNat (spc (L2 43 0) + 1))) (30, 0) 33 (-1)) (30, 0) 34 (Int32.ofNat p)) (30, 0) 35 cc) L2 → wp_Mo_answer 554 M3 (clrK a K2)) → (¬ mz_i m2 (52, 0) 0 = 0 → 0 = 0 → frN m2 = -1 → ∀ cc M3, A2 M3 (mz_si (mz_si (mz_si (mz_si (nB m2 0 a) (30, 0) 32 (Int32.ofNat (spc (L2 43 0) + 1))) (30, 0) 33 (-1)) (30, 0) 34 (Int32.ofNat p)) (30, 0) 35 cc) L2 → wp_Mo_answer 552 M3 (clrK a K2)) → (¬ mz_i m2 (52, 0) 0 = 0 → 0 = 0 → ∀ n : Nat, n < 16 → frN m2 = Int32.ofNat n → ∀ cc M3, A2 M3 (rc2 (mk2 (mz_si (mz_si (mz_si (mz_si (nB m2 0 a) (30, 0) 32 (Int32.ofNat (spc (L2 43 0) + 1))) (30, 0) 33 (-1)) (30, 0) 34 (Int32.ofNat p)) (30, 0) 35 cc) n 1 (Int32.ofNat p) (lsI ss) 0) 0 n) (lu L2 38 n []) → wp_Mo_answer 150 M3 (clrK a K2)) → wp_Mo_doLine_255 (clrK a K2) (mz_i m2 (47, 0) 0) (mz_i m2 (48, 0) 0) (mz_i m2 (49, 0) 0) (Int32.ofNat (13 + 1)) (eaI 13) M2 := by
      intro M2 K2 h2 g425 g554 g552 g150
      refine rfT M2 K2 h2 (fun cc M3 h3 hcc => mo_rcvA (X := 0) (k := 0) (p := p) (nm := cc) (m2 := m2) h3 ha (by decide) (by decide) (Or.inl ⟨rfl, rfl⟩) (by decide) rfl rfl hp.1 rfl rfl rfl (fun y => g425 y cc M3 h3) (fun y y2 => g554 y y2 cc M3 h3) (fun y y2 y3 => g552 y y2 y3 cc M3 h3) (fun y y2 n hn hn0 hth hfr M4 h4 => ?_))
      have ec := hcc hpl1
      refine g150 y y2 n hn hfr cc M4 ?_
      rw [← ec]
      exact h4
    refine pl_tsize (m1 := m1) (m2 := m2) (L1 := L1) (L2 := L2) (tg := -1) h5 hN5 rfl (fun n' hf' e' => absurd e' (nneg hf'.1)) (fun _ => ?_)
    show wp_Ses_receiveFile 0 (Int32.ofNat 0) M5 _
    refine pl_rcvA (k := 0) (p := p) (pl := Int32.ofNat p) (nm := lsI ss) (m1 := m1) (m2 := m2) (L1 := L1) (L2 := L2) h5 hN5 (by decide) rfl rfl hp.1 s13 rfl hasc (by rw [lu_same]) (fun h52 => ?_) (fun h52 hk0 => ?_) (fun h52 hk0 hfr1 => ?_) (fun h52 hk0 n hn hn0 hth hfr1 M6 h6 => ?_)
    · skip
      rintro _ rfl
      have ht := h5.si (o := (8, 0)) (k := 16) (v := 425) rfl
      refine pl_forget (v := 425) false false false ht rfl (fg_s (by decide)) (fg_2 (by decide)) (fg_2 (by decide)) (fun M9 h9 => ?_)
      have hEE : ∀ cc : Int32, EE (fgM (mz_si (mz_si (mz_si (mz_si (mS m1 0 (spc (L1 13 0)) fr vd) (8, 0) 16 0) (8, 0) 12 (-1)) (8, 0) 13 (Int32.ofNat p)) (8, 0) 16 425) 0 false false false) (lu L1 15 0 ss) ((mz_si (mz_si (mz_si (mz_si (nB m2 0 a) (30, 0) 32 (Int32.ofNat (spc (L2 43 0) + 1))) (30, 0) 33 (-1)) (30, 0) 34 (Int32.ofNat p)) (30, 0) 35 cc)) L2 := fun cc => ⟨⟨s1, s2, s3, Or.inl ⟨o0, rfl⟩, rfl, s6, s7, Or.inl ⟨rfl, rfl⟩, ⟨rfl, Or.inl rfl⟩, ⟨rfl, 0, by decide, rfl⟩, s11, s12, s13, s14, s15, s16⟩, hE.2.1, hE.2.2⟩
      refine finF_0 (m1 := m1) (m2 := m2) (v := 425) (a := a) (no := fun cc => (mz_si (mz_si (mz_si (mz_si (nB m2 0 a) (30, 0) 32 (Int32.ofNat (spc (L2 43 0) + 1))) (30, 0) 33 (-1)) (30, 0) 34 (Int32.ofNat p)) (30, 0) 35 cc)) hEE ha (fun _ => ha) (fun _ => rfl) (by decide) (by decide) (by decide) (by decide) (fun _ => ⟨o0, rfl⟩) (fun _ => ⟨fun _ => rfl, rfl, rfl, rfl, rfl, rfl, rfl, rfl, rfl, rfl⟩) rfl h9 (fun M1' hr => hk M1' (fun M2 K2 h2 hk2 => rA M2 K2 h2 (fun _ cc M4 h4 => hr cc M4 K2 h4 hk2) (fun z => absurd h52 z) (fun z => absurd h52 z) (fun z => absurd h52 z)))
    · skip
      rintro _ rfl
      have ht := h5.si (o := (8, 0)) (k := 16) (v := 554) rfl
      refine pl_forget (v := 554) false false false ht rfl (fg_s (by decide)) (fg_2 (by decide)) (fg_2 (by decide)) (fun M9 h9 => ?_)
      have hEE : ∀ cc : Int32, EE (fgM (mz_si (mz_si (mz_si (mz_si (mS m1 0 (spc (L1 13 0)) fr vd) (8, 0) 16 0) (8, 0) 12 (-1)) (8, 0) 13 (Int32.ofNat p)) (8, 0) 16 554) 0 false false false) (lu L1 15 0 ss) ((mz_si (mz_si (mz_si (mz_si (nB m2 0 a) (30, 0) 32 (Int32.ofNat (spc (L2 43 0) + 1))) (30, 0) 33 (-1)) (30, 0) 34 (Int32.ofNat p)) (30, 0) 35 cc)) L2 := fun cc => ⟨⟨s1, s2, s3, Or.inl ⟨o0, rfl⟩, rfl, s6, s7, Or.inl ⟨rfl, rfl⟩, ⟨rfl, Or.inl rfl⟩, ⟨rfl, 0, by decide, rfl⟩, s11, s12, s13, s14, s15, s16⟩, hE.2.1, hE.2.2⟩
      refine finF_0 (m1 := m1) (m2 := m2) (v := 554) (a := a) (no := fun cc => (mz_si (mz_si (mz_si (mz_si (nB m2 0 a) (30, 0) 32 (Int32.ofNat (spc (L2 43 0) + 1))) (30, 0) 33 (-1)) (30, 0) 34 (Int32.ofNat p)) (30, 0) 35 cc)) hEE ha (fun _ => ha) (fun _ => rfl) (by decide) (by decide) (by decide) (by decide) (fun _ => ⟨o0, rfl⟩) (fun _ => ⟨fun _ => rfl, rfl, rfl, rfl, rfl, rfl, rfl, rfl, rfl, rfl⟩) rfl h9 (fun M1' hr => hk M1' (fun M2 K2 h2 hk2 => rA M2 K2 h2 (fun z => absurd z h52) (fun _ _ cc M4 h4 => hr cc M4 K2 h4 hk2) (fun _ z => absurd z hk0) (fun _ z => absurd z hk0)))
    · skip
      rintro _ rfl
      have ht := h5.si (o := (8, 0)) (k := 16) (v := 552) rfl
      refine pl_forget (v := 552) false false false ht rfl (fg_s (by decide)) (fg_2 (by decide)) (fg_2 (by decide)) (fun M9 h9 => ?_)
      have hEE : ∀ cc : Int32, EE (fgM (mz_si (mz_si (mz_si (mz_si (mS m1 0 (spc (L1 13 0)) fr vd) (8, 0) 16 0) (8, 0) 12 (-1)) (8, 0) 13 (Int32.ofNat p)) (8, 0) 16 552) 0 false false false) (lu L1 15 0 ss) ((mz_si (mz_si (mz_si (mz_si (nB m2 0 a) (30, 0) 32 (Int32.ofNat (spc (L2 43 0) + 1))) (30, 0) 33 (-1)) (30, 0) 34 (Int32.ofNat p)) (30, 0) 35 cc)) L2 := fun cc => ⟨⟨s1, s2, s3, Or.inl ⟨o0, rfl⟩, rfl, s6, s7, Or.inl ⟨rfl, rfl⟩, ⟨rfl, Or.inl rfl⟩, ⟨rfl, 0, by decide, rfl⟩, s11, s12, s13, s14, s15, s16⟩, hE.2.1, hE.2.2⟩
      refine finF_0 (m1 := m1) (m2 := m2) (v := 552) (a := a) (no := fun cc => (mz_si (mz_si (mz_si (mz_si (nB m2 0 a) (30, 0) 32 (Int32.ofNat (spc (L2 43 0) + 1))) (30, 0) 33 (-1)) (30, 0) 34 (Int32.ofNat p)) (30, 0) 35 cc)) hEE ha (fun _ => ha) (fun _ => rfl) (by decide) (by decide) (by decide) (by decide) (fun _ => ⟨o0, rfl⟩) (fun _ => ⟨fun _ => rfl, rfl, rfl, rfl, rfl, rfl, rfl, rfl, rfl, rfl⟩) rfl h9 (fun M1' hr => hk M1' (fun M2 K2 h2 hk2 => rA M2 K2 h2 (fun z => absurd z h52) (fun _ z => absurd hk0 z) (fun _ _ _ cc M4 h4 => hr cc M4 K2 h4 hk2) (fun _ _ n hn z => absurd (hfr1.symm.trans z) (nneg hn))))
    · have hE0 := ee_mk (kd := 2) (fl := 1) (sr := 0) hE hn hn0 hth hp hnm (Or.inl ⟨rfl, rfl⟩)
      have hb := mk2_n m2 n 1 (Int32.ofNat p) (lsI ss) 0
      have hf0 : filE (mk2 m2 n 1 (Int32.ofNat p) (lsI ss) 0) n := ⟨hn, hb.1, hb.2.1⟩
      have hm0 : ¬ mvd (mk2 m2 n 1 (Int32.ofNat p) (lsI ss) 0) n := by
        rintro ⟨x, hx, _, e⟩
        exact absurd (hth.symm.trans (mv_fil hE hx hn e).2.1) (by decide)
      have hE1 := ee_rcv_0 (l1 := []) (l2 := []) hE0 hf0 hm0 r53 rfl
      rw [lu_lu, lu_lu] at hE1
      obtain ⟨s1, s2, s3, s4, s5, s6, s7, s8, s9, s10, s11, s12, s13, s14, s15, s16⟩ := hE1.1
      rintro _ rfl
      have ht := h6.si (o := (8, 0)) (k := 16) (v := 150) rfl
      refine pl_forget (v := 150) false false false ht rfl (fg_s (by decide)) (fg_2 (by decide)) (fg_2 (by decide)) (fun M9 h9 => ?_)
      have hEE : ∀ cc : Int32, EE (fgM (mz_si (rc1 (mk1 (mz_si (mz_si (mz_si (mS m1 0 (spc (L1 13 0)) fr vd) (8, 0) 16 0) (8, 0) 12 (-1)) (8, 0) 13 (Int32.ofNat p)) n 2 (Int32.ofNat p) (lsI ss)) 0 n (mz_i m1 (8, 0) 8)) (8, 0) 16 150) 0 false false false) (lu (lu L1 15 0 ss) 5 n []) (rc2 (mk2 (mz_si (mz_si (mz_si (mz_si (nB m2 0 a) (30, 0) 32 (Int32.ofNat (spc (L2 43 0) + 1))) (30, 0) 33 (-1)) (30, 0) 34 (Int32.ofNat p)) (30, 0) 35 cc) n 1 (Int32.ofNat p) (lsI ss) 0) 0 n) (lu L2 38 n []) := fun cc => ⟨⟨s1, s2, s3, Or.inl ⟨o0, rfl⟩, rfl, s6, s7, Or.inl ⟨rfl, rfl⟩, ⟨rfl, Or.inl rfl⟩, ⟨rfl, 0, by decide, rfl⟩, s11, s12, s13, s14, s15, s16⟩, hE1.2⟩
      refine finF_0 (m1 := m1) (m2 := m2) (v := 150) (a := a) (no := fun cc => rc2 (mk2 (mz_si (mz_si (mz_si (mz_si (nB m2 0 a) (30, 0) 32 (Int32.ofNat (spc (L2 43 0) + 1))) (30, 0) 33 (-1)) (30, 0) 34 (Int32.ofNat p)) (30, 0) 35 cc) n 1 (Int32.ofNat p) (lsI ss) 0) 0 n) hEE ha (fun _ => ha) (fun _ => rfl) (by decide) (by decide) (by decide) (by decide) (fun _ => ⟨o0, rfl⟩) (fun _ => ⟨fun _ => rfl, rfl, rfl, rfl, rfl, rfl, rfl, rfl, rfl, rfl⟩) rfl h9 (fun M1' hr => hk M1' (fun M2 K2 h2 hk2 => rA M2 K2 h2 (fun z => absurd z h52) (fun _ z => absurd hk0 z) (fun _ _ z => absurd (z.symm.trans hfr1) (nneg hn)) (fun _ _ n' hn' hfr' cc M4 h4 => ?_)))
      have en := ofN_inj (by omega) (by omega) (hfr1.symm.trans hfr')
      subst en
      exact hr cc M4 K2 h4 hk2
theorem ob_1_12 : obPred 1 12 := by
  intro m1 m2 M L1 L2 fr vd a ss K hE o0 ha hfit hW hD hA hfr hss h hk
  obtain ⟨s1, s2, s3, s4, s5, s6, s7, s8, s9, s10, s11, s12, s13, s14, s15, s16⟩ := hE.2.1
  have hcl := spc_le (L1 13 1)
  have h30 : (L1 13 1).length ≤ 30 := (h.line 1).2.1
  have sl : spc (L2 43 1) = spc (L1 13 1) := by rw [s3]
  have hu : ¬ mz_i m1 (8, 1) 7 = 0 := hW.elim (fun z => absurd z (by decide)) id
  have hp : pth (L1 13 1) (spc (L1 13 1) + 1) = some ss := hss ((hz5 hfit).2.2 rfl)
  have hN := hE.2.2.1
  have hr0 := hE.2.2.2.2.1
  have hw0 : ¬ mz_i m2 (46, 0) 1 = 0 := by
    rcases s7 with ⟨p, q⟩ | ⟨p, q⟩ | ⟨p, q⟩
    · exact absurd q hu
    · rw [p]; decide
    · rw [p]; decide
  obtain ⟨tg, pl, htg, hpl, hpn, hcls, href⟩ := path_1 hE ha hu hfr hp h
  refine ⟨fun _ => hcls _ (fun M5 h5 => ⟨12, rfl, by decide, fun z => absurd z (by decide), fun z => absurd z (by decide), fun z => absurd z (by decide), fun _ => ?_, fun z => absurd z (by decide), fun z => absurd z (by decide), fun z => absurd z (by decide), fun z => absurd z (by decide), fun z => absurd z (by decide), fun z => absurd z (by decide), fun n12 n13 n14 n15 n16 n17 n18 n19 n20 n21 => absurd rfl n15⟩), fun z => absurd rfl z⟩
  have e12 : mz_i M5 (8, 1) 12 = tg := h5.1 (8, 1) 12 rfl
  have r53 : mz_i m2 (53, 0) 1 = 0 := s14.symm.trans (hD.elim (fun z => absurd rfl z) id)
  have hasc : (mz_i m1 (8, 1) 8) = 0 ∨ (mz_i m1 (8, 1) 8) = 1 := by rw [s12.1]; exact s12.2
  have hN5 : ∀ n : Nat, n < 16 → nodeE (mz_si (mz_si (mz_si (mS m1 1 (spc (L1 13 1)) fr vd) (8, 1) 16 0) (8, 1) 12 tg) (8, 1) 13 pl) L1 m2 L2 n := fun n hn => hN n hn
  have rfT : ∀ (M2 : MzM) (K2 : MzM → Prop), A2 M2 (mz_si (nB m2 1 a) (30, 0) 32 (Int32.ofNat (spc (L2 43 1) + 1))) L2 → (∀ cc M3, A2 M3 (mz_si (mz_si (mz_si (mz_si (nB m2 1 a) (30, 0) 32 (Int32.ofNat (spc (L2 43 1) + 1))) (30, 0) 33 tg) (30, 0) 34 pl) (30, 0) 35 cc) L2 → (¬ pl = -1 → cc = lsI ss) → wp_Mo_doTransfer (Int32.ofNat (12 + 1)) (mz_i m2 (49, 0) 1) M3 (clrK a K2)) → wp_Mo_doLine_255 (clrK a K2) (mz_i m2 (47, 0) 1) (mz_i m2 (48, 0) 1) (mz_i m2 (49, 0) 1) (Int32.ofNat (12 + 1)) (eaI 12) M2 := by
    intro M2 K2 h2 k0
    exact ⟨fun _ => mo_pc (fun _ => ⟨fun z => absurd z (by decide), fun _ => href M2 _ h2 (fun M3 cc h3 hcc => ⟨fun z => absurd z (by decide), fun _ => ⟨fun z => absurd z (by decide), fun _ => k0 cc M3 h3 hcc⟩⟩)⟩) (fun z => absurd z (by decide)), fun z => absurd z (by decide)⟩
  obtain ⟨k, hk24, ek⟩ := s10.2
  have e11 : mz_i M5 (8, 1) 11 = Int32.ofNat k := (h5.1 (8, 1) 11 rfl).trans (s10.1.trans ek)
  rcases hpl with qpl | ⟨p, hp, epl⟩
  · subst qpl
    by_cases hfil : ∃ n : Nat, filE m2 n ∧ tg = Int32.ofNat n
    · obtain ⟨n, hf, etg⟩ := hfil
      subst etg
      have el : L1 5 n = L2 38 n := ((hN n hf.1).2.2.2.2.2 hf).1
      have l24 : (L1 5 n).length ≤ 24 := (h5.2.2.1 5 4 1 24 n rfl).2.1
      have rB : ∀ (M2 : MzM) (K2 : MzM → Prop), A2 M2 (mz_si (nB m2 1 a) (30, 0) 32 (Int32.ofNat (spc (L2 43 1) + 1))) L2 → (mvd m2 n → ∀ cc M3, A2 M3 (mz_si (mz_si (mz_si (mz_si (nB m2 1 a) (30, 0) 32 (Int32.ofNat (spc (L2 43 1) + 1))) (30, 0) 33 (Int32.ofNat n)) (30, 0) 34 (-1)) (30, 0) 35 cc) L2 → wp_Mo_answer 450 M3 (clrK a K2)) → (¬ mvd m2 n → mz_i m2 (52, 0) 1 = 0 → ∀ cc M3, A2 M3 (mz_si (mz_si (mz_si (mz_si (nB m2 1 a) (30, 0) 32 (Int32.ofNat (spc (L2 43 1) + 1))) (30, 0) 33 (Int32.ofNat n)) (30, 0) 34 (-1)) (30, 0) 35 cc) L2 → wp_Mo_answer 425 M3 (clrK a K2)) → (¬ mvd m2 n → ¬ mz_i m2 (52, 0) 1 = 0 → ¬ k ≤ (L2 38 n).length → ∀ cc M3, A2 M3 (mz_si (mz_si (mz_si (mz_si (nB m2 1 a) (30, 0) 32 (Int32.ofNat (spc (L2 43 1) + 1))) (30, 0) 33 (Int32.ofNat n)) (30, 0) 34 (-1)) (30, 0) 35 cc) L2 → wp_Mo_answer 554 M3 (clrK a K2)) → (¬ mvd m2 n → ¬ mz_i m2 (52, 0) 1 = 0 → k ≤ (L2 38 n).length → ∀ cc M3, A2 M3 (rc2 (mz_si (mz_si (mz_si (mz_si (nB m2 1 a) (30, 0) 32 (Int32.ofNat (spc (L2 43 1) + 1))) (30, 0) 33 (Int32.ofNat n)) (30, 0) 34 (-1)) (30, 0) 35 cc) 1 n) (lu L2 38 n ((L2 38 n).take k)) → wp_Mo_answer 150 M3 (clrK a K2)) → wp_Mo_doLine_255 (clrK a K2) (mz_i m2 (47, 0) 1) (mz_i m2 (48, 0) 1) (mz_i m2 (49, 0) 1) (Int32.ofNat (12 + 1)) (eaI 12) M2 := by
        intro M2 K2 h2 g450 g425 g554 g150
        exact rfT M2 K2 h2 (fun cc M3 h3 _ => mo_rcvB (X := 1) (k := k) (n := n) (m2 := m2) h3 ha (by decide) (by decide) (Or.inr ⟨by decide, ek⟩) hk24 rfl hf rfl rfl rfl rfl (fun y => g450 y cc M3 h3) (fun y y2 => g425 y y2 cc M3 h3) (fun y y2 y3 => g554 y y2 y3 cc M3 h3) (fun y y2 y3 M4 h4 => g150 y y2 y3 cc M4 h4))
      show wp_Ses_receiveFile 1 (mz_i M5 (8, 1) 11) M5 _
      rw [e11]
      refine pl_rcvB (k := k) (n := n) (m1 := m1) (m2 := m2) (L1 := L1) (L1' := L1) (L2 := L2) h5 hE hN5 hk24 rfl rfl hf rfl rfl s13 rfl hasc (fun hm => ?_) (fun hm h52 => ?_) (fun hm h52 hkl => ?_) (fun hm h52 hkl M6 h6 => ?_)
      · skip
        rintro _ rfl
        have ht := h5.si (o := (8, 1)) (k := 16) (v := 450) rfl
        refine pl_forget (v := 450) false false false ht rfl (fg_s (by decide)) (fg_2 (by decide)) (fg_2 (by decide)) (fun M9 h9 => ?_)
        have hEE : ∀ cc : Int32, EE (fgM (mz_si (mz_si (mz_si (mz_si (mS m1 1 (spc (L1 13 1)) fr vd) (8, 1) 16 0) (8, 1) 12 (Int32.ofNat n)) (8, 1) 13 (-1)) (8, 1) 16 450) 1 false false false) (lu L1 15 1 ss) ((mz_si (mz_si (mz_si (mz_si (nB m2 1 a) (30, 0) 32 (Int32.ofNat (spc (L2 43 1) + 1))) (30, 0) 33 (Int32.ofNat n)) (30, 0) 34 (-1)) (30, 0) 35 cc)) L2 := fun cc => ⟨hE.1, ⟨s1, s2, s3, Or.inl ⟨o0, rfl⟩, rfl, s6, s7, Or.inl ⟨rfl, rfl⟩, ⟨rfl, Or.inl rfl⟩, ⟨rfl, 0, by decide, rfl⟩, s11, s12, s13, s14, s15, s16⟩, hE.2.2⟩
        refine finF_1 (m1 := m1) (m2 := m2) (v := 450) (a := a) (no := fun cc => (mz_si (mz_si (mz_si (mz_si (nB m2 1 a) (30, 0) 32 (Int32.ofNat (spc (L2 43 1) + 1))) (30, 0) 33 (Int32.ofNat n)) (30, 0) 34 (-1)) (30, 0) 35 cc)) hEE ha (fun _ => ha) (fun _ => rfl) (by decide) (by decide) (by decide) (by decide) (fun _ => ⟨o0, rfl⟩) (fun _ => ⟨fun _ => rfl, rfl, rfl, rfl, rfl, rfl, rfl, rfl, rfl, rfl⟩) rfl h9 (fun M1' hr => hk M1' (fun M2 K2 h2 hk2 => rB M2 K2 h2 (fun _ cc M4 h4 => hr cc M4 K2 h4 hk2) (fun z => absurd hm z) (fun z => absurd hm z) (fun z => absurd hm z)))
      · skip
        rintro _ rfl
        have ht := h5.si (o := (8, 1)) (k := 16) (v := 425) rfl
        refine pl_forget (v := 425) false false false ht rfl (fg_s (by decide)) (fg_2 (by decide)) (fg_2 (by decide)) (fun M9 h9 => ?_)
        have hEE : ∀ cc : Int32, EE (fgM (mz_si (mz_si (mz_si (mz_si (mS m1 1 (spc (L1 13 1)) fr vd) (8, 1) 16 0) (8, 1) 12 (Int32.ofNat n)) (8, 1) 13 (-1)) (8, 1) 16 425) 1 false false false) (lu L1 15 1 ss) ((mz_si (mz_si (mz_si (mz_si (nB m2 1 a) (30, 0) 32 (Int32.ofNat (spc (L2 43 1) + 1))) (30, 0) 33 (Int32.ofNat n)) (30, 0) 34 (-1)) (30, 0) 35 cc)) L2 := fun cc => ⟨hE.1, ⟨s1, s2, s3, Or.inl ⟨o0, rfl⟩, rfl, s6, s7, Or.inl ⟨rfl, rfl⟩, ⟨rfl, Or.inl rfl⟩, ⟨rfl, 0, by decide, rfl⟩, s11, s12, s13, s14, s15, s16⟩, hE.2.2⟩
        refine finF_1 (m1 := m1) (m2 := m2) (v := 425) (a := a) (no := fun cc => (mz_si (mz_si (mz_si (mz_si (nB m2 1 a) (30, 0) 32 (Int32.ofNat (spc (L2 43 1) + 1))) (30, 0) 33 (Int32.ofNat n)) (30, 0) 34 (-1)) (30, 0) 35 cc)) hEE ha (fun _ => ha) (fun _ => rfl) (by decide) (by decide) (by decide) (by decide) (fun _ => ⟨o0, rfl⟩) (fun _ => ⟨fun _ => rfl, rfl, rfl, rfl, rfl, rfl, rfl, rfl, rfl, rfl⟩) rfl h9 (fun M1' hr => hk M1' (fun M2 K2 h2 hk2 => rB M2 K2 h2 (fun z => absurd z hm) (fun _ _ cc M4 h4 => hr cc M4 K2 h4 hk2) (fun _ z => absurd h52 z) (fun _ z => absurd h52 z)))
      · have hkl2 : ¬ k ≤ (L2 38 n).length := by rw [← el]; exact hkl
        rintro _ rfl
        have ht := h5.si (o := (8, 1)) (k := 16) (v := 554) rfl
        refine pl_forget (v := 554) false false false ht rfl (fg_s (by decide)) (fg_2 (by decide)) (fg_2 (by decide)) (fun M9 h9 => ?_)
        have hEE : ∀ cc : Int32, EE (fgM (mz_si (mz_si (mz_si (mz_si (mS m1 1 (spc (L1 13 1)) fr vd) (8, 1) 16 0) (8, 1) 12 (Int32.ofNat n)) (8, 1) 13 (-1)) (8, 1) 16 554) 1 false false false) (lu L1 15 1 ss) ((mz_si (mz_si (mz_si (mz_si (nB m2 1 a) (30, 0) 32 (Int32.ofNat (spc (L2 43 1) + 1))) (30, 0) 33 (Int32.ofNat n)) (30, 0) 34 (-1)) (30, 0) 35 cc)) L2 := fun cc => ⟨hE.1, ⟨s1, s2, s3, Or.inl ⟨o0, rfl⟩, rfl, s6, s7, Or.inl ⟨rfl, rfl⟩, ⟨rfl, Or.inl rfl⟩, ⟨rfl, 0, by decide, rfl⟩, s11, s12, s13, s14, s15, s16⟩, hE.2.2⟩
        refine finF_1 (m1 := m1) (m2 := m2) (v := 554) (a := a) (no := fun cc => (mz_si (mz_si (mz_si (mz_si (nB m2 1 a) (30, 0) 32 (Int32.ofNat (spc (L2 43 1) + 1))) (30, 0) 33 (Int32.ofNat n)) (30, 0) 34 (-1)) (30, 0) 35 cc)) hEE ha (fun _ => ha) (fun _ => rfl) (by decide) (by decide) (by decide) (by decide) (fun _ => ⟨o0, rfl⟩) (fun _ => ⟨fun _ => rfl, rfl, rfl, rfl, rfl, rfl, rfl, rfl, rfl, rfl⟩) rfl h9 (fun M1' hr => hk M1' (fun M2 K2 h2 hk2 => rB M2 K2 h2 (fun z => absurd z hm) (fun _ z => absurd z h52) (fun _ _ _ cc M4 h4 => hr cc M4 K2 h4 hk2) (fun _ _ z => absurd z hkl2)))
      · have hkl2 : k ≤ (L2 38 n).length := by rw [← el]; exact hkl
        have hE1 := ee_rcv_1 (l1 := (L1 5 n).take k) (l2 := (L2 38 n).take k) hE hf hm r53 (by rw [el])
        have h6' : A1 M6 (rc1 (mz_si (mz_si (mz_si (mS m1 1 (spc (L1 13 1)) fr vd) (8, 1) 16 0) (8, 1) 12 (Int32.ofNat n)) (8, 1) 13 (-1)) 1 n (mz_i m1 (8, 1) 8)) (lu (lu L1 15 1 ss) 5 n ((L1 5 n).take k)) := h6
        obtain ⟨s1, s2, s3, s4, s5, s6, s7, s8, s9, s10, s11, s12, s13, s14, s15, s16⟩ := hE1.2.1
        rintro _ rfl
        have ht := h6'.si (o := (8, 1)) (k := 16) (v := 150) rfl
        refine pl_forget (v := 150) false false false ht rfl (fg_s (by decide)) (fg_2 (by decide)) (fg_2 (by decide)) (fun M9 h9 => ?_)
        have hEE : ∀ cc : Int32, EE (fgM (mz_si (rc1 (mz_si (mz_si (mz_si (mS m1 1 (spc (L1 13 1)) fr vd) (8, 1) 16 0) (8, 1) 12 (Int32.ofNat n)) (8, 1) 13 (-1)) 1 n (mz_i m1 (8, 1) 8)) (8, 1) 16 150) 1 false false false) (lu (lu L1 15 1 ss) 5 n ((L1 5 n).take k)) (rc2 (mz_si (mz_si (mz_si (mz_si (nB m2 1 a) (30, 0) 32 (Int32.ofNat (spc (L2 43 1) + 1))) (30, 0) 33 (Int32.ofNat n)) (30, 0) 34 (-1)) (30, 0) 35 cc) 1 n) (lu L2 38 n ((L2 38 n).take k)) := fun cc => ⟨hE1.1, ⟨s1, s2, s3, Or.inl ⟨o0, rfl⟩, rfl, s6, s7, Or.inl ⟨rfl, rfl⟩, ⟨rfl, Or.inl rfl⟩, ⟨rfl, 0, by decide, rfl⟩, s11, s12, s13, s14, s15, s16⟩, hE1.2.2⟩
        refine finF_1 (m1 := m1) (m2 := m2) (v := 150) (a := a) (no := fun cc => rc2 (mz_si (mz_si (mz_si (mz_si (nB m2 1 a) (30, 0) 32 (Int32.ofNat (spc (L2 43 1) + 1))) (30, 0) 33 (Int32.ofNat n)) (30, 0) 34 (-1)) (30, 0) 35 cc) 1 n) hEE ha (fun _ => ha) (fun _ => rfl) (by decide) (by decide) (by decide) (by decide) (fun _ => ⟨o0, rfl⟩) (fun _ => ⟨fun _ => rfl, rfl, rfl, rfl, rfl, rfl, rfl, rfl, rfl, rfl⟩) rfl h9 (fun M1' hr => hk M1' (fun M2 K2 h2 hk2 => rB M2 K2 h2 (fun z => absurd z hm) (fun _ z => absurd z h52) (fun _ _ z => absurd hkl2 z) (fun _ _ _ cc M4 h4 => hr cc M4 K2 h4 hk2)))
    · have hz : ∀ n : Nat, ¬ (filE m2 n ∧ tg = Int32.ofNat n) := fun n z => hfil ⟨n, z⟩
      refine pl_rcvC (m2 := m2) (L1 := L1) (L2 := L2) (tg := tg) h5 hN5 rfl rfl hz ?_
      rintro _ rfl
      have ht := h5.si (o := (8, 1)) (k := 16) (v := 550) rfl
      refine pl_forget (v := 550) false false false ht rfl (fg_s (by decide)) (fg_2 (by decide)) (fg_2 (by decide)) (fun M9 h9 => ?_)
      have hEE : ∀ cc : Int32, EE (fgM (mz_si (mz_si (mz_si (mz_si (mS m1 1 (spc (L1 13 1)) fr vd) (8, 1) 16 0) (8, 1) 12 tg) (8, 1) 13 (-1)) (8, 1) 16 550) 1 false false false) (lu L1 15 1 ss) ((mz_si (mz_si (mz_si (mz_si (nB m2 1 a) (30, 0) 32 (Int32.ofNat (spc (L2 43 1) + 1))) (30, 0) 33 tg) (30, 0) 34 (-1)) (30, 0) 35 cc)) L2 := fun cc => ⟨hE.1, ⟨s1, s2, s3, Or.inl ⟨o0, rfl⟩, rfl, s6, s7, Or.inl ⟨rfl, rfl⟩, ⟨rfl, Or.inl rfl⟩, ⟨rfl, 0, by decide, rfl⟩, s11, s12, s13, s14, s15, s16⟩, hE.2.2⟩
      refine finF_1 (m1 := m1) (m2 := m2) (v := 550) (a := a) (no := fun cc => (mz_si (mz_si (mz_si (mz_si (nB m2 1 a) (30, 0) 32 (Int32.ofNat (spc (L2 43 1) + 1))) (30, 0) 33 tg) (30, 0) 34 (-1)) (30, 0) 35 cc)) hEE ha (fun _ => ha) (fun _ => rfl) (by decide) (by decide) (by decide) (by decide) (fun _ => ⟨o0, rfl⟩) (fun _ => ⟨fun _ => rfl, rfl, rfl, rfl, rfl, rfl, rfl, rfl, rfl, rfl⟩) rfl h9 (fun M1' hr => hk M1' (fun M2 K2 h2 hk2 => rfT M2 K2 h2 (fun cc M3 h3 _ => mo_rcvC (m2 := m2) (tg := tg) h3 (by decide) htg rfl rfl rfl (fun n hn => (hN n hn).2.1) hz (hr cc M3 K2 h3 hk2))))
  · subst epl
    have hpl1 : ¬ Int32.ofNat p = -1 := fun z => nneg hp.1 z.symm
    obtain ⟨qtg, hnm⟩ := hpn hpl1
    subst qtg
    have rA : ∀ (M2 : MzM) (K2 : MzM → Prop), A2 M2 (mz_si (nB m2 1 a) (30, 0) 32 (Int32.ofNat (spc (L2 43 1) + 1))) L2 → (mz_i m2 (52, 0) 1 = 0 → ∀ cc M3, A2 M3 (mz_si (mz_si (mz_si (mz_si (nB m2 1 a) (30, 0) 32 (Int32.ofNat (spc (L2 43 1) + 1))) (30, 0) 33 (-1)) (30, 0) 34 (Int32.ofNat p)) (30, 0) 35 cc) L2 → wp_Mo_answer 425 M3 (clrK a K2)) → (¬ mz_i m2 (52, 0) 1 = 0 → ¬ k = 0 → ∀ cc M3, A2 M3 (mz_si (mz_si (mz_si (mz_si (nB m2 1 a) (30, 0) 32 (Int32.ofNat (spc (L2 43 1) + 1))) (30, 0) 33 (-1)) (30, 0) 34 (Int32.ofNat p)) (30, 0) 35 cc) L2 → wp_Mo_answer 554 M3 (clrK a K2)) → (¬ mz_i m2 (52, 0) 1 = 0 → k = 0 → frN m2 = -1 → ∀ cc M3, A2 M3 (mz_si (mz_si (mz_si (mz_si (nB m2 1 a) (30, 0) 32 (Int32.ofNat (spc (L2 43 1) + 1))) (30, 0) 33 (-1)) (30, 0) 34 (Int32.ofNat p)) (30, 0) 35 cc) L2 → wp_Mo_answer 552 M3 (clrK a K2)) → (¬ mz_i m2 (52, 0) 1 = 0 → k = 0 → ∀ n : Nat, n < 16 → frN m2 = Int32.ofNat n → ∀ cc M3, A2 M3 (rc2 (mk2 (mz_si (mz_si (mz_si (mz_si (nB m2 1 a) (30, 0) 32 (Int32.ofNat (spc (L2 43 1) + 1))) (30, 0) 33 (-1)) (30, 0) 34 (Int32.ofNat p)) (30, 0) 35 cc) n 1 (Int32.ofNat p) (lsI ss) 0) 1 n) (lu L2 38 n []) → wp_Mo_answer 150 M3 (clrK a K2)) → wp_Mo_doLine_255 (clrK a K2) (mz_i m2 (47, 0) 1) (mz_i m2 (48, 0) 1) (mz_i m2 (49, 0) 1) (Int32.ofNat (12 + 1)) (eaI 12) M2 := by
      intro M2 K2 h2 g425 g554 g552 g150
      refine rfT M2 K2 h2 (fun cc M3 h3 hcc => mo_rcvA (X := 1) (k := k) (p := p) (nm := cc) (m2 := m2) h3 ha (by decide) (by decide) (Or.inr ⟨by decide, ek⟩) hk24 rfl rfl hp.1 rfl rfl rfl (fun y => g425 y cc M3 h3) (fun y y2 => g554 y y2 cc M3 h3) (fun y y2 y3 => g552 y y2 y3 cc M3 h3) (fun y y2 n hn hn0 hth hfr M4 h4 => ?_))
      have ec := hcc hpl1
      refine g150 y y2 n hn hfr cc M4 ?_
      rw [← ec]
      exact h4
    show wp_Ses_receiveFile 1 (mz_i M5 (8, 1) 11) M5 _
    rw [e11]
    refine pl_rcvA (k := k) (p := p) (pl := Int32.ofNat p) (nm := lsI ss) (m1 := m1) (m2 := m2) (L1 := L1) (L2 := L2) h5 hN5 hk24 rfl rfl hp.1 s13 rfl hasc (by rw [lu_same]) (fun h52 => ?_) (fun h52 hk0 => ?_) (fun h52 hk0 hfr1 => ?_) (fun h52 hk0 n hn hn0 hth hfr1 M6 h6 => ?_)
    · skip
      rintro _ rfl
      have ht := h5.si (o := (8, 1)) (k := 16) (v := 425) rfl
      refine pl_forget (v := 425) false false false ht rfl (fg_s (by decide)) (fg_2 (by decide)) (fg_2 (by decide)) (fun M9 h9 => ?_)
      have hEE : ∀ cc : Int32, EE (fgM (mz_si (mz_si (mz_si (mz_si (mS m1 1 (spc (L1 13 1)) fr vd) (8, 1) 16 0) (8, 1) 12 (-1)) (8, 1) 13 (Int32.ofNat p)) (8, 1) 16 425) 1 false false false) (lu L1 15 1 ss) ((mz_si (mz_si (mz_si (mz_si (nB m2 1 a) (30, 0) 32 (Int32.ofNat (spc (L2 43 1) + 1))) (30, 0) 33 (-1)) (30, 0) 34 (Int32.ofNat p)) (30, 0) 35 cc)) L2 := fun cc => ⟨hE.1, ⟨s1, s2, s3, Or.inl ⟨o0, rfl⟩, rfl, s6, s7, Or.inl ⟨rfl, rfl⟩, ⟨rfl, Or.inl rfl⟩, ⟨rfl, 0, by decide, rfl⟩, s11, s12, s13, s14, s15, s16⟩, hE.2.2⟩
      refine finF_1 (m1 := m1) (m2 := m2) (v := 425) (a := a) (no := fun cc => (mz_si (mz_si (mz_si (mz_si (nB m2 1 a) (30, 0) 32 (Int32.ofNat (spc (L2 43 1) + 1))) (30, 0) 33 (-1)) (30, 0) 34 (Int32.ofNat p)) (30, 0) 35 cc)) hEE ha (fun _ => ha) (fun _ => rfl) (by decide) (by decide) (by decide) (by decide) (fun _ => ⟨o0, rfl⟩) (fun _ => ⟨fun _ => rfl, rfl, rfl, rfl, rfl, rfl, rfl, rfl, rfl, rfl⟩) rfl h9 (fun M1' hr => hk M1' (fun M2 K2 h2 hk2 => rA M2 K2 h2 (fun _ cc M4 h4 => hr cc M4 K2 h4 hk2) (fun z => absurd h52 z) (fun z => absurd h52 z) (fun z => absurd h52 z)))
    · skip
      rintro _ rfl
      have ht := h5.si (o := (8, 1)) (k := 16) (v := 554) rfl
      refine pl_forget (v := 554) false false false ht rfl (fg_s (by decide)) (fg_2 (by decide)) (fg_2 (by decide)) (fun M9 h9 => ?_)
      have hEE : ∀ cc : Int32, EE (fgM (mz_si (mz_si (mz_si (mz_si (mS m1 1 (spc (L1 13 1)) fr vd) (8, 1) 16 0) (8, 1) 12 (-1)) (8, 1) 13 (Int32.ofNat p)) (8, 1) 16 554) 1 false false false) (lu L1 15 1 ss) ((mz_si (mz_si (mz_si (mz_si (nB m2 1 a) (30, 0) 32 (Int32.ofNat (spc (L2 43 1) + 1))) (30, 0) 33 (-1)) (30, 0) 34 (Int32.ofNat p)) (30, 0) 35 cc)) L2 := fun cc => ⟨hE.1, ⟨s1, s2, s3, Or.inl ⟨o0, rfl⟩, rfl, s6, s7, Or.inl ⟨rfl, rfl⟩, ⟨rfl, Or.inl rfl⟩, ⟨rfl, 0, by decide, rfl⟩, s11, s12, s13, s14, s15, s16⟩, hE.2.2⟩
      refine finF_1 (m1 := m1) (m2 := m2) (v := 554) (a := a) (no := fun cc => (mz_si (mz_si (mz_si (mz_si (nB m2 1 a) (30, 0) 32 (Int32.ofNat (spc (L2 43 1) + 1))) (30, 0) 33 (-1)) (30, 0) 34 (Int32.ofNat p)) (30, 0) 35 cc)) hEE ha (fun _ => ha) (fun _ => rfl) (by decide) (by decide) (by decide) (by decide) (fun _ => ⟨o0, rfl⟩) (fun _ => ⟨fun _ => rfl, rfl, rfl, rfl, rfl, rfl, rfl, rfl, rfl, rfl⟩) rfl h9 (fun M1' hr => hk M1' (fun M2 K2 h2 hk2 => rA M2 K2 h2 (fun z => absurd z h52) (fun _ _ cc M4 h4 => hr cc M4 K2 h4 hk2) (fun _ z => absurd z hk0) (fun _ z => absurd z hk0)))
    · skip
      rintro _ rfl
      have ht := h5.si (o := (8, 1)) (k := 16) (v := 552) rfl
      refine pl_forget (v := 552) false false false ht rfl (fg_s (by decide)) (fg_2 (by decide)) (fg_2 (by decide)) (fun M9 h9 => ?_)
      have hEE : ∀ cc : Int32, EE (fgM (mz_si (mz_si (mz_si (mz_si (mS m1 1 (spc (L1 13 1)) fr vd) (8, 1) 16 0) (8, 1) 12 (-1)) (8, 1) 13 (Int32.ofNat p)) (8, 1) 16 552) 1 false false false) (lu L1 15 1 ss) ((mz_si (mz_si (mz_si (mz_si (nB m2 1 a) (30, 0) 32 (Int32.ofNat (spc (L2 43 1) + 1))) (30, 0) 33 (-1)) (30, 0) 34 (Int32.ofNat p)) (30, 0) 35 cc)) L2 := fun cc => ⟨hE.1, ⟨s1, s2, s3, Or.inl ⟨o0, rfl⟩, rfl, s6, s7, Or.inl ⟨rfl, rfl⟩, ⟨rfl, Or.inl rfl⟩, ⟨rfl, 0, by decide, rfl⟩, s11, s12, s13, s14, s15, s16⟩, hE.2.2⟩
      refine finF_1 (m1 := m1) (m2 := m2) (v := 552) (a := a) (no := fun cc => (mz_si (mz_si (mz_si (mz_si (nB m2 1 a) (30, 0) 32 (Int32.ofNat (spc (L2 43 1) + 1))) (30, 0) 33 (-1)) (30, 0) 34 (Int32.ofNat p)) (30, 0) 35 cc)) hEE ha (fun _ => ha) (fun _ => rfl) (by decide) (by decide) (by decide) (by decide) (fun _ => ⟨o0, rfl⟩) (fun _ => ⟨fun _ => rfl, rfl, rfl, rfl, rfl, rfl, rfl, rfl, rfl, rfl⟩) rfl h9 (fun M1' hr => hk M1' (fun M2 K2 h2 hk2 => rA M2 K2 h2 (fun z => absurd z h52) (fun _ z => absurd hk0 z) (fun _ _ _ cc M4 h4 => hr cc M4 K2 h4 hk2) (fun _ _ n hn z => absurd (hfr1.symm.trans z) (nneg hn))))
    · have hE0 := ee_mk (kd := 2) (fl := 1) (sr := 0) hE hn hn0 hth hp hnm (Or.inl ⟨rfl, rfl⟩)
      have hb := mk2_n m2 n 1 (Int32.ofNat p) (lsI ss) 0
      have hf0 : filE (mk2 m2 n 1 (Int32.ofNat p) (lsI ss) 0) n := ⟨hn, hb.1, hb.2.1⟩
      have hm0 : ¬ mvd (mk2 m2 n 1 (Int32.ofNat p) (lsI ss) 0) n := by
        rintro ⟨x, hx, _, e⟩
        exact absurd (hth.symm.trans (mv_fil hE hx hn e).2.1) (by decide)
      have hE1 := ee_rcv_1 (l1 := []) (l2 := []) hE0 hf0 hm0 r53 rfl
      rw [lu_lu, lu_lu] at hE1
      obtain ⟨s1, s2, s3, s4, s5, s6, s7, s8, s9, s10, s11, s12, s13, s14, s15, s16⟩ := hE1.2.1
      rintro _ rfl
      have ht := h6.si (o := (8, 1)) (k := 16) (v := 150) rfl
      refine pl_forget (v := 150) false false false ht rfl (fg_s (by decide)) (fg_2 (by decide)) (fg_2 (by decide)) (fun M9 h9 => ?_)
      have hEE : ∀ cc : Int32, EE (fgM (mz_si (rc1 (mk1 (mz_si (mz_si (mz_si (mS m1 1 (spc (L1 13 1)) fr vd) (8, 1) 16 0) (8, 1) 12 (-1)) (8, 1) 13 (Int32.ofNat p)) n 2 (Int32.ofNat p) (lsI ss)) 1 n (mz_i m1 (8, 1) 8)) (8, 1) 16 150) 1 false false false) (lu (lu L1 15 1 ss) 5 n []) (rc2 (mk2 (mz_si (mz_si (mz_si (mz_si (nB m2 1 a) (30, 0) 32 (Int32.ofNat (spc (L2 43 1) + 1))) (30, 0) 33 (-1)) (30, 0) 34 (Int32.ofNat p)) (30, 0) 35 cc) n 1 (Int32.ofNat p) (lsI ss) 0) 1 n) (lu L2 38 n []) := fun cc => ⟨hE1.1, ⟨s1, s2, s3, Or.inl ⟨o0, rfl⟩, rfl, s6, s7, Or.inl ⟨rfl, rfl⟩, ⟨rfl, Or.inl rfl⟩, ⟨rfl, 0, by decide, rfl⟩, s11, s12, s13, s14, s15, s16⟩, hE1.2.2⟩
      refine finF_1 (m1 := m1) (m2 := m2) (v := 150) (a := a) (no := fun cc => rc2 (mk2 (mz_si (mz_si (mz_si (mz_si (nB m2 1 a) (30, 0) 32 (Int32.ofNat (spc (L2 43 1) + 1))) (30, 0) 33 (-1)) (30, 0) 34 (Int32.ofNat p)) (30, 0) 35 cc) n 1 (Int32.ofNat p) (lsI ss) 0) 1 n) hEE ha (fun _ => ha) (fun _ => rfl) (by decide) (by decide) (by decide) (by decide) (fun _ => ⟨o0, rfl⟩) (fun _ => ⟨fun _ => rfl, rfl, rfl, rfl, rfl, rfl, rfl, rfl, rfl, rfl⟩) rfl h9 (fun M1' hr => hk M1' (fun M2 K2 h2 hk2 => rA M2 K2 h2 (fun z => absurd z h52) (fun _ z => absurd hk0 z) (fun _ _ z => absurd (z.symm.trans hfr1) (nneg hn)) (fun _ _ n' hn' hfr' cc M4 h4 => ?_)))
      have en := ofN_inj (by omega) (by omega) (hfr1.symm.trans hfr')
      subst en
      exact hr cc M4 K2 h4 hk2
theorem ob_1_13 : obPred 1 13 := by
  intro m1 m2 M L1 L2 fr vd a ss K hE o0 ha hfit hW hD hA hfr hss h hk
  obtain ⟨s1, s2, s3, s4, s5, s6, s7, s8, s9, s10, s11, s12, s13, s14, s15, s16⟩ := hE.2.1
  have hcl := spc_le (L1 13 1)
  have h30 : (L1 13 1).length ≤ 30 := (h.line 1).2.1
  have sl : spc (L2 43 1) = spc (L1 13 1) := by rw [s3]
  have hu : ¬ mz_i m1 (8, 1) 7 = 0 := hW.elim (fun z => absurd z (by decide)) id
  have hp : pth (L1 13 1) (spc (L1 13 1) + 1) = some ss := hss ((hz5 hfit).2.2 rfl)
  have hN := hE.2.2.1
  have hr0 := hE.2.2.2.2.1
  have hw0 : ¬ mz_i m2 (46, 0) 1 = 0 := by
    rcases s7 with ⟨p, q⟩ | ⟨p, q⟩ | ⟨p, q⟩
    · exact absurd q hu
    · rw [p]; decide
    · rw [p]; decide
  obtain ⟨tg, pl, htg, hpl, hpn, hcls, href⟩ := path_1 hE ha hu hfr hp h
  refine ⟨fun _ => hcls _ (fun M5 h5 => ⟨13, rfl, by decide, fun z => absurd z (by decide), fun z => absurd z (by decide), fun z => absurd z (by decide), fun z => absurd z (by decide), fun _ => ?_, fun z => absurd z (by decide), fun z => absurd z (by decide), fun z => absurd z (by decide), fun z => absurd z (by decide), fun z => absurd z (by decide), fun n12 n13 n14 n15 n16 n17 n18 n19 n20 n21 => absurd rfl n16⟩), fun z => absurd rfl z⟩
  have e12 : mz_i M5 (8, 1) 12 = tg := h5.1 (8, 1) 12 rfl
  have r53 : mz_i m2 (53, 0) 1 = 0 := s14.symm.trans (hD.elim (fun z => absurd rfl z) id)
  have hasc : (mz_i m1 (8, 1) 8) = 0 ∨ (mz_i m1 (8, 1) 8) = 1 := by rw [s12.1]; exact s12.2
  have hN5 : ∀ n : Nat, n < 16 → nodeE (mz_si (mz_si (mz_si (mS m1 1 (spc (L1 13 1)) fr vd) (8, 1) 16 0) (8, 1) 12 tg) (8, 1) 13 pl) L1 m2 L2 n := fun n hn => hN n hn
  have rfT : ∀ (M2 : MzM) (K2 : MzM → Prop), A2 M2 (mz_si (nB m2 1 a) (30, 0) 32 (Int32.ofNat (spc (L2 43 1) + 1))) L2 → (∀ cc M3, A2 M3 (mz_si (mz_si (mz_si (mz_si (nB m2 1 a) (30, 0) 32 (Int32.ofNat (spc (L2 43 1) + 1))) (30, 0) 33 tg) (30, 0) 34 pl) (30, 0) 35 cc) L2 → (¬ pl = -1 → cc = lsI ss) → wp_Mo_doTransfer (Int32.ofNat (13 + 1)) (mz_i m2 (49, 0) 1) M3 (clrK a K2)) → wp_Mo_doLine_255 (clrK a K2) (mz_i m2 (47, 0) 1) (mz_i m2 (48, 0) 1) (mz_i m2 (49, 0) 1) (Int32.ofNat (13 + 1)) (eaI 13) M2 := by
    intro M2 K2 h2 k0
    exact ⟨fun _ => mo_pc (fun _ => ⟨fun z => absurd z (by decide), fun _ => href M2 _ h2 (fun M3 cc h3 hcc => ⟨fun z => absurd z (by decide), fun _ => ⟨fun z => absurd z (by decide), fun _ => k0 cc M3 h3 hcc⟩⟩)⟩) (fun z => absurd z (by decide)), fun z => absurd z (by decide)⟩
  rcases hpl with qpl | ⟨p, hp, epl⟩
  · subst qpl
    by_cases hfil : ∃ n : Nat, filE m2 n ∧ tg = Int32.ofNat n
    · obtain ⟨n, hf, etg⟩ := hfil
      subst etg
      have el : L1 5 n = L2 38 n := ((hN n hf.1).2.2.2.2.2 hf).1
      have l24 : (L1 5 n).length ≤ 24 := (h5.2.2.1 5 4 1 24 n rfl).2.1
      have rB : ∀ (M2 : MzM) (K2 : MzM → Prop), A2 M2 (mz_si (nB m2 1 a) (30, 0) 32 (Int32.ofNat (spc (L2 43 1) + 1))) L2 → (mvd m2 n → ∀ cc M3, A2 M3 (mz_si (mz_si (mz_si (mz_si (nB m2 1 a) (30, 0) 32 (Int32.ofNat (spc (L2 43 1) + 1))) (30, 0) 33 (Int32.ofNat n)) (30, 0) 34 (-1)) (30, 0) 35 cc) L2 → wp_Mo_answer 450 M3 (clrK a K2)) → (¬ mvd m2 n → mz_i m2 (52, 0) 1 = 0 → ∀ cc M3, A2 M3 (mz_si (mz_si (mz_si (mz_si (nB m2 1 a) (30, 0) 32 (Int32.ofNat (spc (L2 43 1) + 1))) (30, 0) 33 (Int32.ofNat n)) (30, 0) 34 (-1)) (30, 0) 35 cc) L2 → wp_Mo_answer 425 M3 (clrK a K2)) → (¬ mvd m2 n → ¬ mz_i m2 (52, 0) 1 = 0 → ¬ (L2 38 n).length ≤ (L2 38 n).length → ∀ cc M3, A2 M3 (mz_si (mz_si (mz_si (mz_si (nB m2 1 a) (30, 0) 32 (Int32.ofNat (spc (L2 43 1) + 1))) (30, 0) 33 (Int32.ofNat n)) (30, 0) 34 (-1)) (30, 0) 35 cc) L2 → wp_Mo_answer 554 M3 (clrK a K2)) → (¬ mvd m2 n → ¬ mz_i m2 (52, 0) 1 = 0 → (L2 38 n).length ≤ (L2 38 n).length → ∀ cc M3, A2 M3 (rc2 (mz_si (mz_si (mz_si (mz_si (nB m2 1 a) (30, 0) 32 (Int32.ofNat (spc (L2 43 1) + 1))) (30, 0) 33 (Int32.ofNat n)) (30, 0) 34 (-1)) (30, 0) 35 cc) 1 n) (lu L2 38 n ((L2 38 n).take (L2 38 n).length)) → wp_Mo_answer 150 M3 (clrK a K2)) → wp_Mo_doLine_255 (clrK a K2) (mz_i m2 (47, 0) 1) (mz_i m2 (48, 0) 1) (mz_i m2 (49, 0) 1) (Int32.ofNat (13 + 1)) (eaI 13) M2 := by
        intro M2 K2 h2 g450 g425 g554 g150
        exact rfT M2 K2 h2 (fun cc M3 h3 _ => mo_rcvB (X := 1) (k := (L2 38 n).length) (n := n) (m2 := m2) h3 ha (by decide) (by decide) (Or.inl ⟨rfl, rfl⟩) (by rw [← el]; exact l24) rfl hf rfl rfl rfl rfl (fun y => g450 y cc M3 h3) (fun y y2 => g425 y y2 cc M3 h3) (fun y y2 y3 => g554 y y2 y3 cc M3 h3) (fun y y2 y3 M4 h4 => g150 y y2 y3 cc M4 h4))
      refine pl_tsize (m1 := m1) (m2 := m2) (L1 := L1) (L2 := L2) (tg := Int32.ofNat n) h5 hN5 rfl (fun n' hf' e' => ?_) (fun hz => absurd ⟨hf, rfl⟩ (hz n))
      have en := ofN_inj (by have := hf.1; omega) (by have := hf'.1; omega) e'
      subst en
      show wp_Ses_receiveFile 1 (Int32.ofNat (L1 5 n).length) M5 _
      rw [el]
      refine pl_rcvB (k := (L2 38 n).length) (n := n) (m1 := m1) (m2 := m2) (L1 := L1) (L1' := L1) (L2 := L2) h5 hE hN5 (by rw [← el]; exact l24) rfl rfl hf rfl rfl s13 rfl hasc (fun hm => ?_) (fun hm h52 => ?_) (fun hm h52 hkl => ?_) (fun hm h52 hkl M6 h6 => ?_)
      · skip
        rintro _ rfl
        have ht := h5.si (o := (8, 1)) (k := 16) (v := 450) rfl
        refine pl_forget (v := 450) false false false ht rfl (fg_s (by decide)) (fg_2 (by decide)) (fg_2 (by decide)) (fun M9 h9 => ?_)
        have hEE : ∀ cc : Int32, EE (fgM (mz_si (mz_si (mz_si (mz_si (mS m1 1 (spc (L1 13 1)) fr vd) (8, 1) 16 0) (8, 1) 12 (Int32.ofNat n)) (8, 1) 13 (-1)) (8, 1) 16 450) 1 false false false) (lu L1 15 1 ss) ((mz_si (mz_si (mz_si (mz_si (nB m2 1 a) (30, 0) 32 (Int32.ofNat (spc (L2 43 1) + 1))) (30, 0) 33 (Int32.ofNat n)) (30, 0) 34 (-1)) (30, 0) 35 cc)) L2 := fun cc => ⟨hE.1, ⟨s1, s2, s3, Or.inl ⟨o0, rfl⟩, rfl, s6, s7, Or.inl ⟨rfl, rfl⟩, ⟨rfl, Or.inl rfl⟩, ⟨rfl, 0, by decide, rfl⟩, s11, s12, s13, s14, s15, s16⟩, hE.2.2⟩
        refine finF_1 (m1 := m1) (m2 := m2) (v := 450) (a := a) (no := fun cc => (mz_si (mz_si (mz_si (mz_si (nB m2 1 a) (30, 0) 32 (Int32.ofNat (spc (L2 43 1) + 1))) (30, 0) 33 (Int32.ofNat n)) (30, 0) 34 (-1)) (30, 0) 35 cc)) hEE ha (fun _ => ha) (fun _ => rfl) (by decide) (by decide) (by decide) (by decide) (fun _ => ⟨o0, rfl⟩) (fun _ => ⟨fun _ => rfl, rfl, rfl, rfl, rfl, rfl, rfl, rfl, rfl, rfl⟩) rfl h9 (fun M1' hr => hk M1' (fun M2 K2 h2 hk2 => rB M2 K2 h2 (fun _ cc M4 h4 => hr cc M4 K2 h4 hk2) (fun z => absurd hm z) (fun z => absurd hm z) (fun z => absurd hm z)))
      · skip
        rintro _ rfl
        have ht := h5.si (o := (8, 1)) (k := 16) (v := 425) rfl
        refine pl_forget (v := 425) false false false ht rfl (fg_s (by decide)) (fg_2 (by decide)) (fg_2 (by decide)) (fun M9 h9 => ?_)
        have hEE : ∀ cc : Int32, EE (fgM (mz_si (mz_si (mz_si (mz_si (mS m1 1 (spc (L1 13 1)) fr vd) (8, 1) 16 0) (8, 1) 12 (Int32.ofNat n)) (8, 1) 13 (-1)) (8, 1) 16 425) 1 false false false) (lu L1 15 1 ss) ((mz_si (mz_si (mz_si (mz_si (nB m2 1 a) (30, 0) 32 (Int32.ofNat (spc (L2 43 1) + 1))) (30, 0) 33 (Int32.ofNat n)) (30, 0) 34 (-1)) (30, 0) 35 cc)) L2 := fun cc => ⟨hE.1, ⟨s1, s2, s3, Or.inl ⟨o0, rfl⟩, rfl, s6, s7, Or.inl ⟨rfl, rfl⟩, ⟨rfl, Or.inl rfl⟩, ⟨rfl, 0, by decide, rfl⟩, s11, s12, s13, s14, s15, s16⟩, hE.2.2⟩
        refine finF_1 (m1 := m1) (m2 := m2) (v := 425) (a := a) (no := fun cc => (mz_si (mz_si (mz_si (mz_si (nB m2 1 a) (30, 0) 32 (Int32.ofNat (spc (L2 43 1) + 1))) (30, 0) 33 (Int32.ofNat n)) (30, 0) 34 (-1)) (30, 0) 35 cc)) hEE ha (fun _ => ha) (fun _ => rfl) (by decide) (by decide) (by decide) (by decide) (fun _ => ⟨o0, rfl⟩) (fun _ => ⟨fun _ => rfl, rfl, rfl, rfl, rfl, rfl, rfl, rfl, rfl, rfl⟩) rfl h9 (fun M1' hr => hk M1' (fun M2 K2 h2 hk2 => rB M2 K2 h2 (fun z => absurd z hm) (fun _ _ cc M4 h4 => hr cc M4 K2 h4 hk2) (fun _ z => absurd h52 z) (fun _ z => absurd h52 z)))
      · have hkl2 : ¬ (L2 38 n).length ≤ (L2 38 n).length := fun _ => hkl (by show (L2 38 n).length ≤ (L1 5 n).length; rw [el]; exact Nat.le_refl _)
        rintro _ rfl
        have ht := h5.si (o := (8, 1)) (k := 16) (v := 554) rfl
        refine pl_forget (v := 554) false false false ht rfl (fg_s (by decide)) (fg_2 (by decide)) (fg_2 (by decide)) (fun M9 h9 => ?_)
        have hEE : ∀ cc : Int32, EE (fgM (mz_si (mz_si (mz_si (mz_si (mS m1 1 (spc (L1 13 1)) fr vd) (8, 1) 16 0) (8, 1) 12 (Int32.ofNat n)) (8, 1) 13 (-1)) (8, 1) 16 554) 1 false false false) (lu L1 15 1 ss) ((mz_si (mz_si (mz_si (mz_si (nB m2 1 a) (30, 0) 32 (Int32.ofNat (spc (L2 43 1) + 1))) (30, 0) 33 (Int32.ofNat n)) (30, 0) 34 (-1)) (30, 0) 35 cc)) L2 := fun cc => ⟨hE.1, ⟨s1, s2, s3, Or.inl ⟨o0, rfl⟩, rfl, s6, s7, Or.inl ⟨rfl, rfl⟩, ⟨rfl, Or.inl rfl⟩, ⟨rfl, 0, by decide, rfl⟩, s11, s12, s13, s14, s15, s16⟩, hE.2.2⟩
        refine finF_1 (m1 := m1) (m2 := m2) (v := 554) (a := a) (no := fun cc => (mz_si (mz_si (mz_si (mz_si (nB m2 1 a) (30, 0) 32 (Int32.ofNat (spc (L2 43 1) + 1))) (30, 0) 33 (Int32.ofNat n)) (30, 0) 34 (-1)) (30, 0) 35 cc)) hEE ha (fun _ => ha) (fun _ => rfl) (by decide) (by decide) (by decide) (by decide) (fun _ => ⟨o0, rfl⟩) (fun _ => ⟨fun _ => rfl, rfl, rfl, rfl, rfl, rfl, rfl, rfl, rfl, rfl⟩) rfl h9 (fun M1' hr => hk M1' (fun M2 K2 h2 hk2 => rB M2 K2 h2 (fun z => absurd z hm) (fun _ z => absurd z h52) (fun _ _ _ cc M4 h4 => hr cc M4 K2 h4 hk2) (fun _ _ z => absurd z hkl2)))
      · have hkl2 : (L2 38 n).length ≤ (L2 38 n).length := Nat.le_refl _
        have hE1 := ee_rcv_1 (l1 := (L1 5 n).take (L2 38 n).length) (l2 := (L2 38 n).take (L2 38 n).length) hE hf hm r53 (by rw [el])
        have h6' : A1 M6 (rc1 (mz_si (mz_si (mz_si (mS m1 1 (spc (L1 13 1)) fr vd) (8, 1) 16 0) (8, 1) 12 (Int32.ofNat n)) (8, 1) 13 (-1)) 1 n (mz_i m1 (8, 1) 8)) (lu (lu L1 15 1 ss) 5 n ((L1 5 n).take (L2 38 n).length)) := h6
        obtain ⟨s1, s2, s3, s4, s5, s6, s7, s8, s9, s10, s11, s12, s13, s14, s15, s16⟩ := hE1.2.1
        rintro _ rfl
        have ht := h6'.si (o := (8, 1)) (k := 16) (v := 150) rfl
        refine pl_forget (v := 150) false false false ht rfl (fg_s (by decide)) (fg_2 (by decide)) (fg_2 (by decide)) (fun M9 h9 => ?_)
        have hEE : ∀ cc : Int32, EE (fgM (mz_si (rc1 (mz_si (mz_si (mz_si (mS m1 1 (spc (L1 13 1)) fr vd) (8, 1) 16 0) (8, 1) 12 (Int32.ofNat n)) (8, 1) 13 (-1)) 1 n (mz_i m1 (8, 1) 8)) (8, 1) 16 150) 1 false false false) (lu (lu L1 15 1 ss) 5 n ((L1 5 n).take (L2 38 n).length)) (rc2 (mz_si (mz_si (mz_si (mz_si (nB m2 1 a) (30, 0) 32 (Int32.ofNat (spc (L2 43 1) + 1))) (30, 0) 33 (Int32.ofNat n)) (30, 0) 34 (-1)) (30, 0) 35 cc) 1 n) (lu L2 38 n ((L2 38 n).take (L2 38 n).length)) := fun cc => ⟨hE1.1, ⟨s1, s2, s3, Or.inl ⟨o0, rfl⟩, rfl, s6, s7, Or.inl ⟨rfl, rfl⟩, ⟨rfl, Or.inl rfl⟩, ⟨rfl, 0, by decide, rfl⟩, s11, s12, s13, s14, s15, s16⟩, hE1.2.2⟩
        refine finF_1 (m1 := m1) (m2 := m2) (v := 150) (a := a) (no := fun cc => rc2 (mz_si (mz_si (mz_si (mz_si (nB m2 1 a) (30, 0) 32 (Int32.ofNat (spc (L2 43 1) + 1))) (30, 0) 33 (Int32.ofNat n)) (30, 0) 34 (-1)) (30, 0) 35 cc) 1 n) hEE ha (fun _ => ha) (fun _ => rfl) (by decide) (by decide) (by decide) (by decide) (fun _ => ⟨o0, rfl⟩) (fun _ => ⟨fun _ => rfl, rfl, rfl, rfl, rfl, rfl, rfl, rfl, rfl, rfl⟩) rfl h9 (fun M1' hr => hk M1' (fun M2 K2 h2 hk2 => rB M2 K2 h2 (fun z => absurd z hm) (fun _ z => absurd z h52) (fun _ _ z => absurd hkl2 z) (fun _ _ _ cc M4 h4 => hr cc M4 K2 h4 hk2)))
    · have hz : ∀ n : Nat, ¬ (filE m2 n ∧ tg = Int32.ofNat n) := fun n z => hfil ⟨n, z⟩
      refine pl_tsize (m1 := m1) (m2 := m2) (L1 := L1) (L2 := L2) (tg := tg) h5 hN5 rfl (fun n' hf' e' => absurd ⟨hf', e'⟩ (hz n')) (fun _ => ?_)
      refine pl_rcvC (m2 := m2) (L1 := L1) (L2 := L2) (tg := tg) h5 hN5 rfl rfl hz ?_
      rintro _ rfl
      have ht := h5.si (o := (8, 1)) (k := 16) (v := 550) rfl
      refine pl_forget (v := 550) false false false ht rfl (fg_s (by decide)) (fg_2 (by decide)) (fg_2 (by decide)) (fun M9 h9 => ?_)
      have hEE : ∀ cc : Int32, EE (fgM (mz_si (mz_si (mz_si (mz_si (mS m1 1 (spc (L1 13 1)) fr vd) (8, 1) 16 0) (8, 1) 12 tg) (8, 1) 13 (-1)) (8, 1) 16 550) 1 false false false) (lu L1 15 1 ss) ((mz_si (mz_si (mz_si (mz_si (nB m2 1 a) (30, 0) 32 (Int32.ofNat (spc (L2 43 1) + 1))) (30, 0) 33 tg) (30, 0) 34 (-1)) (30, 0) 35 cc)) L2 := fun cc => ⟨hE.1, ⟨s1, s2, s3, Or.inl ⟨o0, rfl⟩, rfl, s6, s7, Or.inl ⟨rfl, rfl⟩, ⟨rfl, Or.inl rfl⟩, ⟨rfl, 0, by decide, rfl⟩, s11, s12, s13, s14, s15, s16⟩, hE.2.2⟩
      refine finF_1 (m1 := m1) (m2 := m2) (v := 550) (a := a) (no := fun cc => (mz_si (mz_si (mz_si (mz_si (nB m2 1 a) (30, 0) 32 (Int32.ofNat (spc (L2 43 1) + 1))) (30, 0) 33 tg) (30, 0) 34 (-1)) (30, 0) 35 cc)) hEE ha (fun _ => ha) (fun _ => rfl) (by decide) (by decide) (by decide) (by decide) (fun _ => ⟨o0, rfl⟩) (fun _ => ⟨fun _ => rfl, rfl, rfl, rfl, rfl, rfl, rfl, rfl, rfl, rfl⟩) rfl h9 (fun M1' hr => hk M1' (fun M2 K2 h2 hk2 => rfT M2 K2 h2 (fun cc M3 h3 _ => mo_rcvC (m2 := m2) (tg := tg) h3 (by decide) htg rfl rfl rfl (fun n hn => (hN n hn).2.1) hz (hr cc M3 K2 h3 hk2))))
  · subst epl
    have hpl1 : ¬ Int32.ofNat p = -1 := fun z => nneg hp.1 z.symm
    obtain ⟨qtg, hnm⟩ := hpn hpl1
    subst qtg
    have rA : ∀ (M2 : MzM) (K2 : MzM → Prop), A2 M2 (mz_si (nB m2 1 a) (30, 0) 32 (Int32.ofNat (spc (L2 43 1) + 1))) L2 → (mz_i m2 (52, 0) 1 = 0 → ∀ cc M3, A2 M3 (mz_si (mz_si (mz_si (mz_si (nB m2 1 a) (30, 0) 32 (Int32.ofNat (spc (L2 43 1) + 1))) (30, 0) 33 (-1)) (30, 0) 34 (Int32.ofNat p)) (30, 0) 35 cc) L2 → wp_Mo_answer 425 M3 (clrK a K2)) → (¬ mz_i m2 (52, 0) 1 = 0 → ¬ 0 = 0 → ∀ cc M3, A2 M3 (mz_si (mz_si (mz_si (mz_si (nB m2 1 a) (30, 0) 32 (Int32.ofNat (spc (L2 43 1) + 1))) (30, 0) 33 (-1)) (30, 0) 34 (Int32.ofNat p)) (30, 0) 35 cc) L2 → wp_Mo_answer 554 M3 (clrK a K2)) → (¬ mz_i m2 (52, 0) 1 = 0 → 0 = 0 → frN m2 = -1 → ∀ cc M3, A2 M3 (mz_si (mz_si (mz_si (mz_si (nB m2 1 a) (30, 0) 32 (Int32.ofNat (spc (L2 43 1) + 1))) (30, 0) 33 (-1)) (30, 0) 34 (Int32.ofNat p)) (30, 0) 35 cc) L2 → wp_Mo_answer 552 M3 (clrK a K2)) → (¬ mz_i m2 (52, 0) 1 = 0 → 0 = 0 → ∀ n : Nat, n < 16 → frN m2 = Int32.ofNat n → ∀ cc M3, A2 M3 (rc2 (mk2 (mz_si (mz_si (mz_si (mz_si (nB m2 1 a) (30, 0) 32 (Int32.ofNat (spc (L2 43 1) + 1))) (30, 0) 33 (-1)) (30, 0) 34 (Int32.ofNat p)) (30, 0) 35 cc) n 1 (Int32.ofNat p) (lsI ss) 0) 1 n) (lu L2 38 n []) → wp_Mo_answer 150 M3 (clrK a K2)) → wp_Mo_doLine_255 (clrK a K2) (mz_i m2 (47, 0) 1) (mz_i m2 (48, 0) 1) (mz_i m2 (49, 0) 1) (Int32.ofNat (13 + 1)) (eaI 13) M2 := by
      intro M2 K2 h2 g425 g554 g552 g150
      refine rfT M2 K2 h2 (fun cc M3 h3 hcc => mo_rcvA (X := 1) (k := 0) (p := p) (nm := cc) (m2 := m2) h3 ha (by decide) (by decide) (Or.inl ⟨rfl, rfl⟩) (by decide) rfl rfl hp.1 rfl rfl rfl (fun y => g425 y cc M3 h3) (fun y y2 => g554 y y2 cc M3 h3) (fun y y2 y3 => g552 y y2 y3 cc M3 h3) (fun y y2 n hn hn0 hth hfr M4 h4 => ?_))
      have ec := hcc hpl1
      refine g150 y y2 n hn hfr cc M4 ?_
      rw [← ec]
      exact h4
    refine pl_tsize (m1 := m1) (m2 := m2) (L1 := L1) (L2 := L2) (tg := -1) h5 hN5 rfl (fun n' hf' e' => absurd e' (nneg hf'.1)) (fun _ => ?_)
    show wp_Ses_receiveFile 1 (Int32.ofNat 0) M5 _
    refine pl_rcvA (k := 0) (p := p) (pl := Int32.ofNat p) (nm := lsI ss) (m1 := m1) (m2 := m2) (L1 := L1) (L2 := L2) h5 hN5 (by decide) rfl rfl hp.1 s13 rfl hasc (by rw [lu_same]) (fun h52 => ?_) (fun h52 hk0 => ?_) (fun h52 hk0 hfr1 => ?_) (fun h52 hk0 n hn hn0 hth hfr1 M6 h6 => ?_)
    · skip
      rintro _ rfl
      have ht := h5.si (o := (8, 1)) (k := 16) (v := 425) rfl
      refine pl_forget (v := 425) false false false ht rfl (fg_s (by decide)) (fg_2 (by decide)) (fg_2 (by decide)) (fun M9 h9 => ?_)
      have hEE : ∀ cc : Int32, EE (fgM (mz_si (mz_si (mz_si (mz_si (mS m1 1 (spc (L1 13 1)) fr vd) (8, 1) 16 0) (8, 1) 12 (-1)) (8, 1) 13 (Int32.ofNat p)) (8, 1) 16 425) 1 false false false) (lu L1 15 1 ss) ((mz_si (mz_si (mz_si (mz_si (nB m2 1 a) (30, 0) 32 (Int32.ofNat (spc (L2 43 1) + 1))) (30, 0) 33 (-1)) (30, 0) 34 (Int32.ofNat p)) (30, 0) 35 cc)) L2 := fun cc => ⟨hE.1, ⟨s1, s2, s3, Or.inl ⟨o0, rfl⟩, rfl, s6, s7, Or.inl ⟨rfl, rfl⟩, ⟨rfl, Or.inl rfl⟩, ⟨rfl, 0, by decide, rfl⟩, s11, s12, s13, s14, s15, s16⟩, hE.2.2⟩
      refine finF_1 (m1 := m1) (m2 := m2) (v := 425) (a := a) (no := fun cc => (mz_si (mz_si (mz_si (mz_si (nB m2 1 a) (30, 0) 32 (Int32.ofNat (spc (L2 43 1) + 1))) (30, 0) 33 (-1)) (30, 0) 34 (Int32.ofNat p)) (30, 0) 35 cc)) hEE ha (fun _ => ha) (fun _ => rfl) (by decide) (by decide) (by decide) (by decide) (fun _ => ⟨o0, rfl⟩) (fun _ => ⟨fun _ => rfl, rfl, rfl, rfl, rfl, rfl, rfl, rfl, rfl, rfl⟩) rfl h9 (fun M1' hr => hk M1' (fun M2 K2 h2 hk2 => rA M2 K2 h2 (fun _ cc M4 h4 => hr cc M4 K2 h4 hk2) (fun z => absurd h52 z) (fun z => absurd h52 z) (fun z => absurd h52 z)))
    · skip
      rintro _ rfl
      have ht := h5.si (o := (8, 1)) (k := 16) (v := 554) rfl
      refine pl_forget (v := 554) false false false ht rfl (fg_s (by decide)) (fg_2 (by decide)) (fg_2 (by decide)) (fun M9 h9 => ?_)
      have hEE : ∀ cc : Int32, EE (fgM (mz_si (mz_si (mz_si (mz_si (mS m1 1 (spc (L1 13 1)) fr vd) (8, 1) 16 0) (8, 1) 12 (-1)) (8, 1) 13 (Int32.ofNat p)) (8, 1) 16 554) 1 false false false) (lu L1 15 1 ss) ((mz_si (mz_si (mz_si (mz_si (nB m2 1 a) (30, 0) 32 (Int32.ofNat (spc (L2 43 1) + 1))) (30, 0) 33 (-1)) (30, 0) 34 (Int32.ofNat p)) (30, 0) 35 cc)) L2 := fun cc => ⟨hE.1, ⟨s1, s2, s3, Or.inl ⟨o0, rfl⟩, rfl, s6, s7, Or.inl ⟨rfl, rfl⟩, ⟨rfl, Or.inl rfl⟩, ⟨rfl, 0, by decide, rfl⟩, s11, s12, s13, s14, s15, s16⟩, hE.2.2⟩
      refine finF_1 (m1 := m1) (m2 := m2) (v := 554) (a := a) (no := fun cc => (mz_si (mz_si (mz_si (mz_si (nB m2 1 a) (30, 0) 32 (Int32.ofNat (spc (L2 43 1) + 1))) (30, 0) 33 (-1)) (30, 0) 34 (Int32.ofNat p)) (30, 0) 35 cc)) hEE ha (fun _ => ha) (fun _ => rfl) (by decide) (by decide) (by decide) (by decide) (fun _ => ⟨o0, rfl⟩) (fun _ => ⟨fun _ => rfl, rfl, rfl, rfl, rfl, rfl, rfl, rfl, rfl, rfl⟩) rfl h9 (fun M1' hr => hk M1' (fun M2 K2 h2 hk2 => rA M2 K2 h2 (fun z => absurd z h52) (fun _ _ cc M4 h4 => hr cc M4 K2 h4 hk2) (fun _ z => absurd z hk0) (fun _ z => absurd z hk0)))
    · skip
      rintro _ rfl
      have ht := h5.si (o := (8, 1)) (k := 16) (v := 552) rfl
      refine pl_forget (v := 552) false false false ht rfl (fg_s (by decide)) (fg_2 (by decide)) (fg_2 (by decide)) (fun M9 h9 => ?_)
      have hEE : ∀ cc : Int32, EE (fgM (mz_si (mz_si (mz_si (mz_si (mS m1 1 (spc (L1 13 1)) fr vd) (8, 1) 16 0) (8, 1) 12 (-1)) (8, 1) 13 (Int32.ofNat p)) (8, 1) 16 552) 1 false false false) (lu L1 15 1 ss) ((mz_si (mz_si (mz_si (mz_si (nB m2 1 a) (30, 0) 32 (Int32.ofNat (spc (L2 43 1) + 1))) (30, 0) 33 (-1)) (30, 0) 34 (Int32.ofNat p)) (30, 0) 35 cc)) L2 := fun cc => ⟨hE.1, ⟨s1, s2, s3, Or.inl ⟨o0, rfl⟩, rfl, s6, s7, Or.inl ⟨rfl, rfl⟩, ⟨rfl, Or.inl rfl⟩, ⟨rfl, 0, by decide, rfl⟩, s11, s12, s13, s14, s15, s16⟩, hE.2.2⟩
      refine finF_1 (m1 := m1) (m2 := m2) (v := 552) (a := a) (no := fun cc => (mz_si (mz_si (mz_si (mz_si (nB m2 1 a) (30, 0) 32 (Int32.ofNat (spc (L2 43 1) + 1))) (30, 0) 33 (-1)) (30, 0) 34 (Int32.ofNat p)) (30, 0) 35 cc)) hEE ha (fun _ => ha) (fun _ => rfl) (by decide) (by decide) (by decide) (by decide) (fun _ => ⟨o0, rfl⟩) (fun _ => ⟨fun _ => rfl, rfl, rfl, rfl, rfl, rfl, rfl, rfl, rfl, rfl⟩) rfl h9 (fun M1' hr => hk M1' (fun M2 K2 h2 hk2 => rA M2 K2 h2 (fun z => absurd z h52) (fun _ z => absurd hk0 z) (fun _ _ _ cc M4 h4 => hr cc M4 K2 h4 hk2) (fun _ _ n hn z => absurd (hfr1.symm.trans z) (nneg hn))))
    · have hE0 := ee_mk (kd := 2) (fl := 1) (sr := 0) hE hn hn0 hth hp hnm (Or.inl ⟨rfl, rfl⟩)
      have hb := mk2_n m2 n 1 (Int32.ofNat p) (lsI ss) 0
      have hf0 : filE (mk2 m2 n 1 (Int32.ofNat p) (lsI ss) 0) n := ⟨hn, hb.1, hb.2.1⟩
      have hm0 : ¬ mvd (mk2 m2 n 1 (Int32.ofNat p) (lsI ss) 0) n := by
        rintro ⟨x, hx, _, e⟩
        exact absurd (hth.symm.trans (mv_fil hE hx hn e).2.1) (by decide)
      have hE1 := ee_rcv_1 (l1 := []) (l2 := []) hE0 hf0 hm0 r53 rfl
      rw [lu_lu, lu_lu] at hE1
      obtain ⟨s1, s2, s3, s4, s5, s6, s7, s8, s9, s10, s11, s12, s13, s14, s15, s16⟩ := hE1.2.1
      rintro _ rfl
      have ht := h6.si (o := (8, 1)) (k := 16) (v := 150) rfl
      refine pl_forget (v := 150) false false false ht rfl (fg_s (by decide)) (fg_2 (by decide)) (fg_2 (by decide)) (fun M9 h9 => ?_)
      have hEE : ∀ cc : Int32, EE (fgM (mz_si (rc1 (mk1 (mz_si (mz_si (mz_si (mS m1 1 (spc (L1 13 1)) fr vd) (8, 1) 16 0) (8, 1) 12 (-1)) (8, 1) 13 (Int32.ofNat p)) n 2 (Int32.ofNat p) (lsI ss)) 1 n (mz_i m1 (8, 1) 8)) (8, 1) 16 150) 1 false false false) (lu (lu L1 15 1 ss) 5 n []) (rc2 (mk2 (mz_si (mz_si (mz_si (mz_si (nB m2 1 a) (30, 0) 32 (Int32.ofNat (spc (L2 43 1) + 1))) (30, 0) 33 (-1)) (30, 0) 34 (Int32.ofNat p)) (30, 0) 35 cc) n 1 (Int32.ofNat p) (lsI ss) 0) 1 n) (lu L2 38 n []) := fun cc => ⟨hE1.1, ⟨s1, s2, s3, Or.inl ⟨o0, rfl⟩, rfl, s6, s7, Or.inl ⟨rfl, rfl⟩, ⟨rfl, Or.inl rfl⟩, ⟨rfl, 0, by decide, rfl⟩, s11, s12, s13, s14, s15, s16⟩, hE1.2.2⟩
      refine finF_1 (m1 := m1) (m2 := m2) (v := 150) (a := a) (no := fun cc => rc2 (mk2 (mz_si (mz_si (mz_si (mz_si (nB m2 1 a) (30, 0) 32 (Int32.ofNat (spc (L2 43 1) + 1))) (30, 0) 33 (-1)) (30, 0) 34 (Int32.ofNat p)) (30, 0) 35 cc) n 1 (Int32.ofNat p) (lsI ss) 0) 1 n) hEE ha (fun _ => ha) (fun _ => rfl) (by decide) (by decide) (by decide) (by decide) (fun _ => ⟨o0, rfl⟩) (fun _ => ⟨fun _ => rfl, rfl, rfl, rfl, rfl, rfl, rfl, rfl, rfl, rfl⟩) rfl h9 (fun M1' hr => hk M1' (fun M2 K2 h2 hk2 => rA M2 K2 h2 (fun z => absurd z h52) (fun _ z => absurd hk0 z) (fun _ _ z => absurd (z.symm.trans hfr1) (nneg hn)) (fun _ _ n' hn' hfr' cc M4 h4 => ?_)))
      have en := ofN_inj (by omega) (by omega) (hfr1.symm.trans hfr')
      subst en
      exact hr cc M4 K2 h4 hk2
