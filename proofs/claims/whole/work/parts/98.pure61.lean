theorem ob_0_11 : obPred 0 11 := by
  intro m1 m2 M L1 L2 fr vd a ss K hE o0 ha hfit hW hD hA hfr hss h hk
  obtain ⟨s1, s2, s3, s4, s5, s6, s7, s8, s9, s10, s11, s12, s13, s14, s15, s16⟩ := hE.1
  have hcl := spc_le (L1 13 0)
  have h30 : (L1 13 0).length ≤ 30 := (h.line 0).2.1
  have sl : spc (L2 43 0) = spc (L1 13 0) := by rw [s3]
  have hu : ¬ mz_i m1 (8, 0) 7 = 0 := hW.elim (fun z => absurd z (by decide)) id
  have hp : pth (L1 13 0) (spc (L1 13 0) + 1) = some ss := hss ((hz5 hfit).2.2 rfl)
  have hN := hE.2.2.1
  have hr0 := hE.2.2.2.2.1
  have hw0 : ¬ mz_i m2 (46, 0) 0 = 0 := by
    rcases s7 with ⟨p, q⟩ | ⟨p, q⟩ | ⟨p, q⟩
    · exact absurd q hu
    · rw [p]; decide
    · rw [p]; decide
  obtain ⟨tg, pl, htg, hpl, hpn, hcls, href⟩ := path_0 hE ha hu hfr hp h
  refine ⟨fun _ => hcls _ (fun M5 h5 => ⟨11, rfl, by decide, fun z => absurd z (by decide), fun z => absurd z (by decide), fun _ => ?_, fun z => absurd z (by decide), fun z => absurd z (by decide), fun z => absurd z (by decide), fun z => absurd z (by decide), fun z => absurd z (by decide), fun z => absurd z (by decide), fun z => absurd z (by decide), fun n12 n13 n14 n15 n16 n17 n18 n19 n20 n21 => absurd rfl n14⟩), fun z => absurd rfl z⟩
  have e12 : mz_i M5 (8, 0) 12 = tg := h5.1 (8, 0) 12 rfl
  have r53 : mz_i m2 (53, 0) 0 = 0 := s14.symm.trans (hD.elim (fun z => absurd rfl z) id)
  have s16' := s16
  rcases s16' with t16 | ⟨t16, _⟩ | ⟨t16, _⟩
  rotate_left
  · exact absurd (r53.symm.trans t16) (by decide)
  · exact absurd (r53.symm.trans t16) (by decide)
  have hN5 : ∀ n : Nat, n < 16 → nodeE (mz_si (mz_si (mz_si (mS m1 0 (spc (L1 13 0)) fr vd) (8, 0) 16 0) (8, 0) 12 tg) (8, 0) 13 pl) L1 m2 L2 n := fun n hn => hN n hn
  obtain ⟨k, hk24, ek⟩ := s10.2
  have rfT : ∀ (M2 : MzM) (K2 : MzM → Prop), A2 M2 (mz_si (nB m2 0 a) (30, 0) 32 (Int32.ofNat (spc (L2 43 0) + 1))) L2 → (∀ cc M3, A2 M3 (mz_si (mz_si (mz_si (mz_si (nB m2 0 a) (30, 0) 32 (Int32.ofNat (spc (L2 43 0) + 1))) (30, 0) 33 tg) (30, 0) 34 pl) (30, 0) 35 cc) L2 → wp_Mo_retrieve (Int32.ofNat k) M3 (clrK a K2)) → wp_Mo_doLine_255 (clrK a K2) (mz_i m2 (47, 0) 0) (mz_i m2 (48, 0) 0) (mz_i m2 (49, 0) 0) (Int32.ofNat (11 + 1)) (eaI 11) M2 := by
    intro M2 K2 h2 k0
    rw [ek]
    exact ⟨fun _ => mo_pc (fun _ => ⟨fun z => absurd z (by decide), fun _ => href M2 _ h2 (fun M3 cc h3 hcc => ⟨fun z => absurd z (by decide), fun _ => ⟨fun z => absurd z (by decide), fun _ => ⟨fun z => absurd (by decide) z, fun _ => k0 cc M3 h3⟩⟩⟩)⟩) (fun z => absurd z (by decide)), fun z => absurd z (by decide)⟩
  by_cases hfil : ∃ n : Nat, filE m2 n ∧ tg = Int32.ofNat n
  · obtain ⟨n, hf, etg⟩ := hfil
    subst etg
    have el : L1 5 n = L2 38 n := ((hN n hf.1).2.2.2.2.2 hf).1
    have rB : ∀ (M2 : MzM) (K2 : MzM → Prop), A2 M2 (mz_si (nB m2 0 a) (30, 0) 32 (Int32.ofNat (spc (L2 43 0) + 1))) L2 → (wrt m2 n → ∀ cc M3, A2 M3 (mz_si (mz_si (mz_si (mz_si (nB m2 0 a) (30, 0) 32 (Int32.ofNat (spc (L2 43 0) + 1))) (30, 0) 33 (Int32.ofNat n)) (30, 0) 34 pl) (30, 0) 35 cc) L2 → wp_Mo_answer 450 M3 (clrK a K2)) → (¬ wrt m2 n → mz_i m2 (52, 0) 0 = 0 → ∀ cc M3, A2 M3 (mz_si (mz_si (mz_si (mz_si (nB m2 0 a) (30, 0) 32 (Int32.ofNat (spc (L2 43 0) + 1))) (30, 0) 33 (Int32.ofNat n)) (30, 0) 34 pl) (30, 0) 35 cc) L2 → wp_Mo_answer 425 M3 (clrK a K2)) → (¬ wrt m2 n → ¬ mz_i m2 (52, 0) 0 = 0 → ¬ k ≤ (L2 38 n).length → ∀ cc M3, A2 M3 (mz_si (mz_si (mz_si (mz_si (nB m2 0 a) (30, 0) 32 (Int32.ofNat (spc (L2 43 0) + 1))) (30, 0) 33 (Int32.ofNat n)) (30, 0) 34 pl) (30, 0) 35 cc) L2 → wp_Mo_answer 554 M3 (clrK a K2)) → (¬ wrt m2 n → ¬ mz_i m2 (52, 0) 0 = 0 → k ≤ (L2 38 n).length → ∀ cc M3, A2 M3 (sd2 (mz_si (mz_si (mz_si (mz_si (nB m2 0 a) (30, 0) 32 (Int32.ofNat (spc (L2 43 0) + 1))) (30, 0) 33 (Int32.ofNat n)) (30, 0) 34 pl) (30, 0) 35 cc) 0 (Int32.ofNat n)) (lu L2 58 0 (fil (mz_i m2 (51, 0) 0) ((L2 38 n).drop k))) → wp_Mo_answer 150 M3 (bsK (clrK a K2))) → wp_Mo_doLine_255 (clrK a K2) (mz_i m2 (47, 0) 0) (mz_i m2 (48, 0) 0) (mz_i m2 (49, 0) 0) (Int32.ofNat (11 + 1)) (eaI 11) M2 := by
      intro M2 K2 h2 g450 g425 g554 g150
      exact rfT M2 K2 h2 (fun cc M3 h3 => mo_retr (X := 0) (k := k) (n := n) (m2 := m2) h3 ha (by decide) hk24 rfl hf rfl rfl rfl rfl (fun y => g450 y cc M3 h3) (fun y y2 => g425 y y2 cc M3 h3) (fun y y2 y3 => g554 y y2 y3 cc M3 h3) (fun y y2 y3 M4 h4 => g150 y y2 y3 cc M4 h4))
    refine pl_sendB (k := k) (n := n) (asc := (mz_i m2 (51, 0) 0)) (m1 := m1) (m2 := m2) (L1 := L1) (L1' := L1) (L2 := L2) h5 hE hN5 hk24 rfl (s10.1.trans ek) hf rfl s13 s12.1 t16.2.2.2.2.1 (fun hm => ?_) (fun hm h52 => ?_) (fun hm h52 hkl => ?_) (fun hm h52 hkl M6 h6 => ?_)
    · skip
      rintro _ rfl
      have ht := h5.si (o := (8, 0)) (k := 16) (v := 450) rfl
      refine pl_forget (v := 450) false false false ht rfl (fg_s (by decide)) (fg_2 (by decide)) (fg_2 (by decide)) (fun M9 h9 => ?_)
      have hEE : ∀ cc : Int32, EE (fgM (mz_si (mz_si (mz_si (mz_si (mS m1 0 (spc (L1 13 0)) fr vd) (8, 0) 16 0) (8, 0) 12 (Int32.ofNat n)) (8, 0) 13 pl) (8, 0) 16 450) 0 false false false) (lu L1 15 0 ss) ((mz_si (mz_si (mz_si (mz_si (nB m2 0 a) (30, 0) 32 (Int32.ofNat (spc (L2 43 0) + 1))) (30, 0) 33 (Int32.ofNat n)) (30, 0) 34 pl) (30, 0) 35 cc)) L2 := fun cc => ⟨⟨s1, s2, s3, Or.inl ⟨o0, rfl⟩, rfl, s6, s7, Or.inl ⟨rfl, rfl⟩, ⟨rfl, Or.inl rfl⟩, ⟨rfl, 0, by decide, rfl⟩, s11, s12, s13, s14, s15, s16⟩, hE.2.1, hE.2.2⟩
      refine finF_0 (m1 := m1) (m2 := m2) (v := 450) (a := a) (no := fun cc => (mz_si (mz_si (mz_si (mz_si (nB m2 0 a) (30, 0) 32 (Int32.ofNat (spc (L2 43 0) + 1))) (30, 0) 33 (Int32.ofNat n)) (30, 0) 34 pl) (30, 0) 35 cc)) hEE ha (fun _ => ha) (fun _ => rfl) (by decide) (by decide) (by decide) (by decide) (fun _ => ⟨o0, rfl⟩) (fun _ => ⟨fun _ => rfl, rfl, rfl, rfl, rfl, rfl, rfl, rfl, rfl, rfl⟩) rfl h9 (fun M1' hr => hk M1' (fun M2 K2 h2 hk2 => rB M2 K2 h2 (fun _ cc M4 h4 => hr cc M4 K2 h4 hk2) (fun z => absurd hm z) (fun z => absurd hm z) (fun z => absurd hm z)))
    · skip
      rintro _ rfl
      have ht := h5.si (o := (8, 0)) (k := 16) (v := 425) rfl
      refine pl_forget (v := 425) false false false ht rfl (fg_s (by decide)) (fg_2 (by decide)) (fg_2 (by decide)) (fun M9 h9 => ?_)
      have hEE : ∀ cc : Int32, EE (fgM (mz_si (mz_si (mz_si (mz_si (mS m1 0 (spc (L1 13 0)) fr vd) (8, 0) 16 0) (8, 0) 12 (Int32.ofNat n)) (8, 0) 13 pl) (8, 0) 16 425) 0 false false false) (lu L1 15 0 ss) ((mz_si (mz_si (mz_si (mz_si (nB m2 0 a) (30, 0) 32 (Int32.ofNat (spc (L2 43 0) + 1))) (30, 0) 33 (Int32.ofNat n)) (30, 0) 34 pl) (30, 0) 35 cc)) L2 := fun cc => ⟨⟨s1, s2, s3, Or.inl ⟨o0, rfl⟩, rfl, s6, s7, Or.inl ⟨rfl, rfl⟩, ⟨rfl, Or.inl rfl⟩, ⟨rfl, 0, by decide, rfl⟩, s11, s12, s13, s14, s15, s16⟩, hE.2.1, hE.2.2⟩
      refine finF_0 (m1 := m1) (m2 := m2) (v := 425) (a := a) (no := fun cc => (mz_si (mz_si (mz_si (mz_si (nB m2 0 a) (30, 0) 32 (Int32.ofNat (spc (L2 43 0) + 1))) (30, 0) 33 (Int32.ofNat n)) (30, 0) 34 pl) (30, 0) 35 cc)) hEE ha (fun _ => ha) (fun _ => rfl) (by decide) (by decide) (by decide) (by decide) (fun _ => ⟨o0, rfl⟩) (fun _ => ⟨fun _ => rfl, rfl, rfl, rfl, rfl, rfl, rfl, rfl, rfl, rfl⟩) rfl h9 (fun M1' hr => hk M1' (fun M2 K2 h2 hk2 => rB M2 K2 h2 (fun z => absurd z hm) (fun _ _ cc M4 h4 => hr cc M4 K2 h4 hk2) (fun _ z => absurd h52 z) (fun _ z => absurd h52 z)))
    · have hkl2 : ¬ k ≤ (L2 38 n).length := by rw [← el]; exact hkl
      rintro _ rfl
      have ht := h5.si (o := (8, 0)) (k := 16) (v := 554) rfl
      refine pl_forget (v := 554) false false false ht rfl (fg_s (by decide)) (fg_2 (by decide)) (fg_2 (by decide)) (fun M9 h9 => ?_)
      have hEE : ∀ cc : Int32, EE (fgM (mz_si (mz_si (mz_si (mz_si (mS m1 0 (spc (L1 13 0)) fr vd) (8, 0) 16 0) (8, 0) 12 (Int32.ofNat n)) (8, 0) 13 pl) (8, 0) 16 554) 0 false false false) (lu L1 15 0 ss) ((mz_si (mz_si (mz_si (mz_si (nB m2 0 a) (30, 0) 32 (Int32.ofNat (spc (L2 43 0) + 1))) (30, 0) 33 (Int32.ofNat n)) (30, 0) 34 pl) (30, 0) 35 cc)) L2 := fun cc => ⟨⟨s1, s2, s3, Or.inl ⟨o0, rfl⟩, rfl, s6, s7, Or.inl ⟨rfl, rfl⟩, ⟨rfl, Or.inl rfl⟩, ⟨rfl, 0, by decide, rfl⟩, s11, s12, s13, s14, s15, s16⟩, hE.2.1, hE.2.2⟩
      refine finF_0 (m1 := m1) (m2 := m2) (v := 554) (a := a) (no := fun cc => (mz_si (mz_si (mz_si (mz_si (nB m2 0 a) (30, 0) 32 (Int32.ofNat (spc (L2 43 0) + 1))) (30, 0) 33 (Int32.ofNat n)) (30, 0) 34 pl) (30, 0) 35 cc)) hEE ha (fun _ => ha) (fun _ => rfl) (by decide) (by decide) (by decide) (by decide) (fun _ => ⟨o0, rfl⟩) (fun _ => ⟨fun _ => rfl, rfl, rfl, rfl, rfl, rfl, rfl, rfl, rfl, rfl⟩) rfl h9 (fun M1' hr => hk M1' (fun M2 K2 h2 hk2 => rB M2 K2 h2 (fun z => absurd z hm) (fun _ z => absurd z h52) (fun _ _ _ cc M4 h4 => hr cc M4 K2 h4 hk2) (fun _ _ z => absurd z hkl2)))
    · have hkl2 : k ≤ (L2 38 n).length := by rw [← el]; exact hkl
      have h6' : A1 M6 (sd1 (mz_si (mz_si (mz_si (mS m1 0 (spc (L1 13 0)) fr vd) (8, 0) 16 0) (8, 0) 12 (Int32.ofNat n)) (8, 0) 13 pl) 0 n) (lu (lu L1 15 0 ss) 17 0 (fil (mz_i m2 (51, 0) 0) ((L2 38 n).drop k))) := by
        rw [← el]
        exact h6
      by_cases hl : (fil (mz_i m2 (51, 0) 0) ((L2 38 n).drop k)) = []
      · have hE1 := ee_bkf_0 (n := n) hE r53
        rw [hl] at h6'
        obtain ⟨s1, s2, s3, s4, s5, s6, s7, s8, s9, s10, s11, s12, s13, s14, s15, s16⟩ := hE1.1
        rintro _ rfl
        have ht := h6'.si (o := (8, 0)) (k := 16) (v := 150) rfl
        refine pl_forget (v := 150) false false false ht rfl (fg_s (by decide)) (fg_2 (by decide)) (fg_2 (by decide)) (fun M9 h9 => ?_)
        have hEE : ∀ cc : Int32, EE (wEnd (mz_si (fgM (mz_si (sd1 (mz_si (mz_si (mz_si (mS m1 0 (spc (L1 13 0)) fr vd) (8, 0) 16 0) (8, 0) 12 (Int32.ofNat n)) (8, 0) 13 pl) 0 n) (8, 0) 16 150) 0 false false false) (3, n) 4 (mz_i (fgM (mz_si (sd1 (mz_si (mz_si (mz_si (mS m1 0 (spc (L1 13 0)) fr vd) (8, 0) 16 0) (8, 0) 12 (Int32.ofNat n)) (8, 0) 13 pl) 0 n) (8, 0) 16 150) 0 false false false) (3, n) 4 - 1)) 0) (lu (lu (lu L1 15 0 ss) 17 0 []) 17 0 []) (rEnd (sd2 (mz_si (mz_si (mz_si (mz_si (nB m2 0 a) (30, 0) 32 (Int32.ofNat (spc (L2 43 0) + 1))) (30, 0) 33 (Int32.ofNat n)) (30, 0) 34 pl) (30, 0) 35 cc) 0 (Int32.ofNat n)) 0) (lu L2 58 0 []) := fun cc => ⟨⟨s1, s2, s3, Or.inl ⟨o0, rfl⟩, rfl, s6, s7, Or.inl ⟨rfl, rfl⟩, ⟨rfl, Or.inl rfl⟩, ⟨rfl, 0, by decide, rfl⟩, s11, s12, s13, s14, s15, s16⟩, hE1.2⟩
        refine finEf_0 (m1 := m1) (m2 := m2) (a := a) (n := n) (no := fun cc => sd2 (mz_si (mz_si (mz_si (mz_si (nB m2 0 a) (30, 0) 32 (Int32.ofNat (spc (L2 43 0) + 1))) (30, 0) 33 (Int32.ofNat n)) (30, 0) 34 pl) (30, 0) 35 cc) 0 (Int32.ofNat n)) hEE ha (fun _ => ha) (fun _ => rfl) (fun _ => ⟨o0, rfl⟩) (fun _ => ⟨fun _ => rfl, rfl, rfl, rfl, rfl, rfl, rfl, rfl, rfl, rfl⟩) rfl hf.1 rfl rfl t16.2.2.2.2.2 rfl rfl (fun _ => rfl) h9 (fun M1' hr => hk M1' (fun M2 K2 h2 hk2 => rB M2 K2 h2 (fun z => absurd z hm) (fun _ z => absurd z h52) (fun _ _ z => absurd hkl2 z) (fun _ _ _ cc M4 h4 => hr cc M4 K2 (by rw [hl] at h4; exact h4) hk2)))
      · have hE1 := ee_snf_0 (l := (fil (mz_i m2 (51, 0) 0) ((L2 38 n).drop k))) hE hf hm r53 (List.length_pos_iff.mpr hl)
        obtain ⟨s1, s2, s3, s4, s5, s6, s7, s8, s9, s10, s11, s12, s13, s14, s15, s16⟩ := hE1.1
        rintro _ rfl
        have ht := h6'.si (o := (8, 0)) (k := 16) (v := 150) rfl
        refine pl_forget (v := 150) false false false ht rfl (fg_s (by decide)) (fg_2 (by decide)) (fg_2 (by decide)) (fun M9 h9 => ?_)
        have hEE : ∀ cc : Int32, EE (fgM (mz_si (sd1 (mz_si (mz_si (mz_si (mS m1 0 (spc (L1 13 0)) fr vd) (8, 0) 16 0) (8, 0) 12 (Int32.ofNat n)) (8, 0) 13 pl) 0 n) (8, 0) 16 150) 0 false false false) (lu (lu L1 15 0 ss) 17 0 (fil (mz_i m2 (51, 0) 0) ((L2 38 n).drop k))) (sd2 (mz_si (mz_si (mz_si (mz_si (nB m2 0 a) (30, 0) 32 (Int32.ofNat (spc (L2 43 0) + 1))) (30, 0) 33 (Int32.ofNat n)) (30, 0) 34 pl) (30, 0) 35 cc) 0 (Int32.ofNat n)) (lu L2 58 0 (fil (mz_i m2 (51, 0) 0) ((L2 38 n).drop k))) := fun cc => ⟨⟨s1, s2, s3, Or.inl ⟨o0, rfl⟩, rfl, s6, s7, Or.inl ⟨rfl, rfl⟩, ⟨rfl, Or.inl rfl⟩, ⟨rfl, 0, by decide, rfl⟩, s11, s12, s13, s14, s15, s16⟩, hE1.2⟩
        refine finS_0 (m1 := m1) (m2 := m2) (a := a) (no := fun cc => sd2 (mz_si (mz_si (mz_si (mz_si (nB m2 0 a) (30, 0) 32 (Int32.ofNat (spc (L2 43 0) + 1))) (30, 0) 33 (Int32.ofNat n)) (30, 0) 34 pl) (30, 0) 35 cc) 0 (Int32.ofNat n)) hEE ha (fun _ => ha) (fun _ => rfl) (fun _ => ⟨o0, rfl⟩) (fun _ => ⟨fun _ => rfl, rfl, rfl, rfl, rfl, rfl, rfl, rfl, rfl, rfl⟩) rfl hl h9 (fun M1' hr => hk M1' (fun M2 K2 h2 hk2 => rB M2 K2 h2 (fun z => absurd z hm) (fun _ z => absurd z h52) (fun _ _ z => absurd hkl2 z) (fun _ _ _ cc M4 h4 => hr cc M4 K2 h4 hk2)))
  · have hz : ∀ n : Nat, ¬ (filE m2 n ∧ tg = Int32.ofNat n) := fun n z => hfil ⟨n, z⟩
    refine pl_sendC (m2 := m2) (L1 := L1) (L2 := L2) (tg := tg) h5 hN5 rfl hz ?_
    rintro _ rfl
    have ht := h5.si (o := (8, 0)) (k := 16) (v := 550) rfl
    refine pl_forget (v := 550) false false false ht rfl (fg_s (by decide)) (fg_2 (by decide)) (fg_2 (by decide)) (fun M9 h9 => ?_)
    have hEE : ∀ cc : Int32, EE (fgM (mz_si (mz_si (mz_si (mz_si (mS m1 0 (spc (L1 13 0)) fr vd) (8, 0) 16 0) (8, 0) 12 tg) (8, 0) 13 pl) (8, 0) 16 550) 0 false false false) (lu L1 15 0 ss) ((mz_si (mz_si (mz_si (mz_si (nB m2 0 a) (30, 0) 32 (Int32.ofNat (spc (L2 43 0) + 1))) (30, 0) 33 tg) (30, 0) 34 pl) (30, 0) 35 cc)) L2 := fun cc => ⟨⟨s1, s2, s3, Or.inl ⟨o0, rfl⟩, rfl, s6, s7, Or.inl ⟨rfl, rfl⟩, ⟨rfl, Or.inl rfl⟩, ⟨rfl, 0, by decide, rfl⟩, s11, s12, s13, s14, s15, s16⟩, hE.2.1, hE.2.2⟩
    refine finF_0 (m1 := m1) (m2 := m2) (v := 550) (a := a) (no := fun cc => (mz_si (mz_si (mz_si (mz_si (nB m2 0 a) (30, 0) 32 (Int32.ofNat (spc (L2 43 0) + 1))) (30, 0) 33 tg) (30, 0) 34 pl) (30, 0) 35 cc)) hEE ha (fun _ => ha) (fun _ => rfl) (by decide) (by decide) (by decide) (by decide) (fun _ => ⟨o0, rfl⟩) (fun _ => ⟨fun _ => rfl, rfl, rfl, rfl, rfl, rfl, rfl, rfl, rfl, rfl⟩) rfl h9 (fun M1' hr => hk M1' (fun M2 K2 h2 hk2 => rfT M2 K2 h2 (fun cc M3 h3 => mo_retrC (m2 := m2) (tg := tg) h3 htg rfl rfl (fun n hn => (hN n hn).2.1) hz (hr cc M3 K2 h3 hk2))))
theorem ob_0_14 : obPred 0 14 := by
  intro m1 m2 M L1 L2 fr vd a ss K hE o0 ha hfit hW hD hA hfr hss h hk
  obtain ⟨s1, s2, s3, s4, s5, s6, s7, s8, s9, s10, s11, s12, s13, s14, s15, s16⟩ := hE.1
  have hcl := spc_le (L1 13 0)
  have h30 : (L1 13 0).length ≤ 30 := (h.line 0).2.1
  have sl : spc (L2 43 0) = spc (L1 13 0) := by rw [s3]
  have r53 : mz_i m2 (53, 0) 0 = 0 := s14.symm.trans (hD.elim (fun z => absurd rfl z) id)
  have s16' := s16
  rcases s16' with t16 | ⟨t16, _⟩ | ⟨t16, _⟩
  rotate_left
  · exact absurd (r53.symm.trans t16) (by decide)
  · exact absurd (r53.symm.trans t16) (by decide)
  have hN := hE.2.2.1
  obtain ⟨lst, hlst⟩ : ∃ l : List Int32, l = nmsL (gN m2 (mz_i m2 (50, 0) 0)) 15 1 := ⟨_, rfl⟩
  have rf : ∀ (M2 : MzM) (K2 : MzM → Prop), A2 M2 (mz_si (nB m2 0 a) (30, 0) 32 (Int32.ofNat (spc (L2 43 0) + 1))) L2 → (mz_i m2 (52, 0) 0 = 0 → wp_Mo_answer 425 M2 (clrK a K2)) → (¬ mz_i m2 (52, 0) 0 = 0 → ∀ M3, A2 M3 (sd2 (mz_si (nB m2 0 a) (30, 0) 32 (Int32.ofNat (spc (L2 43 0) + 1))) 0 (-1)) (lu L2 58 0 lst) → wp_Mo_answer 150 M3 (bsK (clrK a K2))) → wp_Mo_doLine_255 (clrK a K2) (mz_i m2 (47, 0) 0) (mz_i m2 (48, 0) 0) (mz_i m2 (49, 0) 0) (Int32.ofNat (14 + 1)) (eaI 14) M2 := by
    intro M2 K2 h2 g425 g150
    have s0 : (mz_i M2 (30, 0) 29).toInt = ((0 : Nat) : Int) := by rw [h2.1 30 29 rfl]; exact ha
    have e52 : mz_i M2 (52, 0) 0 = mz_i m2 (52, 0) 0 := h2.1 52 0 rfl
    refine ⟨fun _ => mo_pc (fun z => absurd z (by decide)) (fun _ => ⟨fun _ => ?_, fun z => absurd rfl z⟩), fun z => absurd z (by decide)⟩
    refine ⟨fun z => absurd z (by decide), fun z => absurd z (by decide), fun z => absurd z (by decide), fun z => absurd z (by decide), fun z => absurd z (by decide), fun z => absurd z (by decide), fun n5 n6 n8 n10 n11 n16 => ⟨0, s0, by decide, fun z => g425 (e52.symm.trans z), fun z => ⟨0, s0, by decide, ?_⟩⟩⟩
    rintro _ rfl
    have hz := h2.clr (t := 58) (i := 0) rfl
    refine ⟨15 + 1, mo_names_loop (x := 0) (m := (mz_si (nB m2 0 a) (30, 0) 32 (Int32.ofNat (spc (L2 43 0) + 1)))) (m1 := m1) (m2 := m2) (L := L2) (L1 := L1) (L2 := L2) ha (by decide) rfl rfl rfl rfl hN 15 1 [] _ rfl (by decide) hz (by decide) (fun M' h' => ?_)⟩
    rw [List.nil_append, ← hlst] at h'
    exact mo_beginSending h' ha (by decide) (fun M4 h4 => g150 (fun w => z (e52.trans w)) M4 h4)
  have e16 : mz_i M (16, 0) 0 = mz_i m2 (52, 0) 0 := (h.1 (16, 0) 0 rfl).trans s13
  refine ⟨fun z => absurd z (by decide), fun _ => ⟨14, rfl, by decide, fun z => absurd z (by decide), fun z => absurd z (by decide), fun z => absurd z (by decide), fun z => absurd z (by decide), fun z => absurd z (by decide), fun z => absurd z (by decide), fun z => absurd z (by decide), fun z => absurd z (by decide), fun z => absurd z (by decide), fun _ => ⟨fun h52 => ?_, fun h52 => ?_⟩, fun z => absurd z (by decide), fun n1 n2 n3 n4 n5 n6 n7 n8 n9 n10 n11 => absurd rfl n10⟩⟩
  · rw [e16] at h52
    rintro _ rfl
    have e17 : lu (lu L1 15 0 ss) 17 0 [] = (lu L1 15 0 ss) := by
      have q : (lu L1 15 0 ss) 17 0 = [] := t16.2.2.2.2.1
      rw [← q]
      exact lu_id _ _ _
    have h3 : A1 (mz_si M (16, 0) 1 1) (mz_si (mz_si (mS m1 0 (spc (L1 13 0)) fr vd) (8, 0) 16 0) (16, 0) 1 1) (lu (lu L1 15 0 ss) 17 0 []) := by
      rw [e17]
      exact h.si (o := (16, 0)) (k := 1) (v := 1) rfl
    refine ⟨15 + 1, pl_names_loop (x := 0) (cur := mz_i m2 (50, 0) 0) (m := (mz_si (mz_si (mS m1 0 (spc (L1 13 0)) fr vd) (8, 0) 16 0) (16, 0) 1 1)) (m2 := m2) (L := (lu L1 15 0 ss)) (L1 := L1) (L2 := L2) (by decide) s1 s11.1 hN 15 1 [] _ rfl (by decide) h3 (by decide) (fun M6 h6 => ?_)⟩
    rw [List.nil_append, ← hlst] at h6
    have h6' : A1 M6 (mz_si (mz_si (mS m1 0 (spc (L1 13 0)) fr vd) (8, 0) 16 0) (16, 0) 1 1) (lu (lu L1 15 0 ss) 17 0 lst) := h6
    by_cases hl : lst = []
    · have hE1 := ee_bkn_0 hE r53
      rw [hl] at h6'
      obtain ⟨s1, s2, s3, s4, s5, s6, s7, s8, s9, s10, s11, s12, s13, s14, s15, s16⟩ := hE1.1
      rintro _ rfl
      have ht := h6'.si (o := (8, 0)) (k := 16) (v := 150) rfl
      refine pl_forget (v := 150) false false false ht rfl (fg_s (by decide)) (fg_2 (by decide)) (fg_2 (by decide)) (fun M9 h9 => ?_)
      have hEE : ∀ cc : Int32, EE (wEnd (fgM (mz_si (mz_si (mz_si (mS m1 0 (spc (L1 13 0)) fr vd) (8, 0) 16 0) (16, 0) 1 1) (8, 0) 16 150) 0 false false false) 0) (lu (lu (lu L1 15 0 ss) 17 0 []) 17 0 []) (rEnd (sd2 (mz_si (nB m2 0 a) (30, 0) 32 (Int32.ofNat (spc (L2 43 0) + 1))) 0 (-1)) 0) (lu L2 58 0 []) := fun cc => ⟨⟨s1, s2, s3, Or.inl ⟨o0, rfl⟩, rfl, s6, s7, Or.inl ⟨rfl, rfl⟩, ⟨rfl, Or.inl rfl⟩, ⟨rfl, 0, by decide, rfl⟩, s11, s12, s13, s14, s15, s16⟩, hE1.2⟩
      refine finEn_0 (m1 := m1) (m2 := m2) (a := a) (n := 0) (no := fun cc => sd2 (mz_si (nB m2 0 a) (30, 0) 32 (Int32.ofNat (spc (L2 43 0) + 1))) 0 (-1)) hEE ha (fun _ => ha) (fun _ => rfl) (fun _ => ⟨o0, rfl⟩) (fun _ => ⟨fun _ => rfl, rfl, rfl, rfl, rfl, rfl, rfl, rfl, rfl, rfl⟩) rfl t16.2.1 rfl t16.2.2.2.2.2 rfl rfl (fun _ => rfl) h9 (fun M1' hr => hk M1' (fun M2 K2 h2 hk2 => rf M2 K2 h2 (fun z => absurd z h52) (fun _ M4 h4 => hr 0 M4 K2 (by rw [hl] at h4; exact h4) hk2)))
    · have hE1 := ee_snm_0 (l := lst) hE r53 (List.length_pos_iff.mpr hl)
      obtain ⟨s1, s2, s3, s4, s5, s6, s7, s8, s9, s10, s11, s12, s13, s14, s15, s16⟩ := hE1.1
      rintro _ rfl
      have ht := h6'.si (o := (8, 0)) (k := 16) (v := 150) rfl
      refine pl_forget (v := 150) false false false ht rfl (fg_s (by decide)) (fg_2 (by decide)) (fg_2 (by decide)) (fun M9 h9 => ?_)
      have hEE : ∀ cc : Int32, EE (fgM (mz_si (mz_si (mz_si (mS m1 0 (spc (L1 13 0)) fr vd) (8, 0) 16 0) (16, 0) 1 1) (8, 0) 16 150) 0 false false false) (lu (lu L1 15 0 ss) 17 0 lst) (sd2 (mz_si (nB m2 0 a) (30, 0) 32 (Int32.ofNat (spc (L2 43 0) + 1))) 0 (-1)) (lu L2 58 0 lst) := fun cc => ⟨⟨s1, s2, s3, Or.inl ⟨o0, rfl⟩, rfl, s6, s7, Or.inl ⟨rfl, rfl⟩, ⟨rfl, Or.inl rfl⟩, ⟨rfl, 0, by decide, rfl⟩, s11, s12, s13, s14, s15, s16⟩, hE1.2⟩
      refine finS_0 (m1 := m1) (m2 := m2) (a := a) (no := fun cc => sd2 (mz_si (nB m2 0 a) (30, 0) 32 (Int32.ofNat (spc (L2 43 0) + 1))) 0 (-1)) hEE ha (fun _ => ha) (fun _ => rfl) (fun _ => ⟨o0, rfl⟩) (fun _ => ⟨fun _ => rfl, rfl, rfl, rfl, rfl, rfl, rfl, rfl, rfl, rfl⟩) rfl hl h9 (fun M1' hr => hk M1' (fun M2 K2 h2 hk2 => rf M2 K2 h2 (fun z => absurd z h52) (fun _ M4 h4 => hr 0 M4 K2 h4 hk2)))
  · rw [e16] at h52
    rintro _ rfl
    have ht := h.si (o := (8, 0)) (k := 16) (v := 425) rfl
    refine pl_forget (v := 425) false false false ht rfl (fg_s (by decide)) (fg_2 (by decide)) (fg_2 (by decide)) (fun M9 h9 => ?_)
    have hEE : EE (fgM (mz_si (mz_si (mS m1 0 (spc (L1 13 0)) fr vd) (8, 0) 16 0) (8, 0) 16 425) 0 false false false) (lu L1 15 0 ss) (mz_si (nB m2 0 a) (30, 0) 32 (Int32.ofNat (spc (L2 43 0) + 1))) L2 := ⟨⟨s1, s2, s3, Or.inl ⟨o0, rfl⟩, rfl, s6, s7, Or.inl ⟨rfl, rfl⟩, ⟨rfl, Or.inl rfl⟩, ⟨rfl, 0, by decide, rfl⟩, s11, s12, s13, s14, s15, s16⟩, hE.2.1, hE.2.2⟩
    refine fin5_0 (m1 := m1) (m2 := m2) (v := 425) (a := a) hEE ha ha rfl (by decide) (by decide) (by decide) (by decide) ⟨o0, rfl⟩ ⟨fun _ => rfl, rfl, rfl, rfl, rfl, rfl, rfl, rfl, rfl, rfl⟩ rfl h9 (fun M1' hr => hk M1' (fun M2 K2 h2 hk2 => rf M2 K2 h2 (fun _ => hr M2 K2 h2 hk2) (fun z => absurd h52 z)))
theorem ob_1_11 : obPred 1 11 := by
  intro m1 m2 M L1 L2 fr vd a ss K hE o0 ha hfit hW hD hA hfr hss h hk
  obtain ⟨s1, s2, s3, s4, s5, s6, s7, s8, s9, s10, s11, s12, s13, s14, s15, s16⟩ := hE.2.1
  have hcl := spc_le (L1 13 1)
  have h30 : (L1 13 1).length ≤ 30 := (h.line 1).2.1
  have sl : spc (L2 43 1) = spc (L1 13 1) := by rw [s3]
  have hu : ¬ mz_i m1 (8, 1) 7 = 0 := hW.elim (fun z => absurd z (by decide)) id
  have hp : pth (L1 13 1) (spc (L1 13 1) + 1) = some ss := hss ((hz5 hfit).2.2 rfl)
  have hN := hE.2.2.1
  have hr0 := hE.2.2.2.2.1
  have hw0 : ¬ mz_i m2 (46, 0) 1 = 0 := by
    rcases s7 with ⟨p, q⟩ | ⟨p, q⟩ | ⟨p, q⟩
    · exact absurd q hu
    · rw [p]; decide
    · rw [p]; decide
  obtain ⟨tg, pl, htg, hpl, hpn, hcls, href⟩ := path_1 hE ha hu hfr hp h
  refine ⟨fun _ => hcls _ (fun M5 h5 => ⟨11, rfl, by decide, fun z => absurd z (by decide), fun z => absurd z (by decide), fun _ => ?_, fun z => absurd z (by decide), fun z => absurd z (by decide), fun z => absurd z (by decide), fun z => absurd z (by decide), fun z => absurd z (by decide), fun z => absurd z (by decide), fun z => absurd z (by decide), fun n12 n13 n14 n15 n16 n17 n18 n19 n20 n21 => absurd rfl n14⟩), fun z => absurd rfl z⟩
  have e12 : mz_i M5 (8, 1) 12 = tg := h5.1 (8, 1) 12 rfl
  have r53 : mz_i m2 (53, 0) 1 = 0 := s14.symm.trans (hD.elim (fun z => absurd rfl z) id)
  have s16' := s16
  rcases s16' with t16 | ⟨t16, _⟩ | ⟨t16, _⟩
  rotate_left
  · exact absurd (r53.symm.trans t16) (by decide)
  · exact absurd (r53.symm.trans t16) (by decide)
  have hN5 : ∀ n : Nat, n < 16 → nodeE (mz_si (mz_si (mz_si (mS m1 1 (spc (L1 13 1)) fr vd) (8, 1) 16 0) (8, 1) 12 tg) (8, 1) 13 pl) L1 m2 L2 n := fun n hn => hN n hn
  obtain ⟨k, hk24, ek⟩ := s10.2
  have rfT : ∀ (M2 : MzM) (K2 : MzM → Prop), A2 M2 (mz_si (nB m2 1 a) (30, 0) 32 (Int32.ofNat (spc (L2 43 1) + 1))) L2 → (∀ cc M3, A2 M3 (mz_si (mz_si (mz_si (mz_si (nB m2 1 a) (30, 0) 32 (Int32.ofNat (spc (L2 43 1) + 1))) (30, 0) 33 tg) (30, 0) 34 pl) (30, 0) 35 cc) L2 → wp_Mo_retrieve (Int32.ofNat k) M3 (clrK a K2)) → wp_Mo_doLine_255 (clrK a K2) (mz_i m2 (47, 0) 1) (mz_i m2 (48, 0) 1) (mz_i m2 (49, 0) 1) (Int32.ofNat (11 + 1)) (eaI 11) M2 := by
    intro M2 K2 h2 k0
    rw [ek]
    exact ⟨fun _ => mo_pc (fun _ => ⟨fun z => absurd z (by decide), fun _ => href M2 _ h2 (fun M3 cc h3 hcc => ⟨fun z => absurd z (by decide), fun _ => ⟨fun z => absurd z (by decide), fun _ => ⟨fun z => absurd (by decide) z, fun _ => k0 cc M3 h3⟩⟩⟩)⟩) (fun z => absurd z (by decide)), fun z => absurd z (by decide)⟩
  by_cases hfil : ∃ n : Nat, filE m2 n ∧ tg = Int32.ofNat n
  · obtain ⟨n, hf, etg⟩ := hfil
    subst etg
    have el : L1 5 n = L2 38 n := ((hN n hf.1).2.2.2.2.2 hf).1
    have rB : ∀ (M2 : MzM) (K2 : MzM → Prop), A2 M2 (mz_si (nB m2 1 a) (30, 0) 32 (Int32.ofNat (spc (L2 43 1) + 1))) L2 → (wrt m2 n → ∀ cc M3, A2 M3 (mz_si (mz_si (mz_si (mz_si (nB m2 1 a) (30, 0) 32 (Int32.ofNat (spc (L2 43 1) + 1))) (30, 0) 33 (Int32.ofNat n)) (30, 0) 34 pl) (30, 0) 35 cc) L2 → wp_Mo_answer 450 M3 (clrK a K2)) → (¬ wrt m2 n → mz_i m2 (52, 0) 1 = 0 → ∀ cc M3, A2 M3 (mz_si (mz_si (mz_si (mz_si (nB m2 1 a) (30, 0) 32 (Int32.ofNat (spc (L2 43 1) + 1))) (30, 0) 33 (Int32.ofNat n)) (30, 0) 34 pl) (30, 0) 35 cc) L2 → wp_Mo_answer 425 M3 (clrK a K2)) → (¬ wrt m2 n → ¬ mz_i m2 (52, 0) 1 = 0 → ¬ k ≤ (L2 38 n).length → ∀ cc M3, A2 M3 (mz_si (mz_si (mz_si (mz_si (nB m2 1 a) (30, 0) 32 (Int32.ofNat (spc (L2 43 1) + 1))) (30, 0) 33 (Int32.ofNat n)) (30, 0) 34 pl) (30, 0) 35 cc) L2 → wp_Mo_answer 554 M3 (clrK a K2)) → (¬ wrt m2 n → ¬ mz_i m2 (52, 0) 1 = 0 → k ≤ (L2 38 n).length → ∀ cc M3, A2 M3 (sd2 (mz_si (mz_si (mz_si (mz_si (nB m2 1 a) (30, 0) 32 (Int32.ofNat (spc (L2 43 1) + 1))) (30, 0) 33 (Int32.ofNat n)) (30, 0) 34 pl) (30, 0) 35 cc) 1 (Int32.ofNat n)) (lu L2 58 1 (fil (mz_i m2 (51, 0) 1) ((L2 38 n).drop k))) → wp_Mo_answer 150 M3 (bsK (clrK a K2))) → wp_Mo_doLine_255 (clrK a K2) (mz_i m2 (47, 0) 1) (mz_i m2 (48, 0) 1) (mz_i m2 (49, 0) 1) (Int32.ofNat (11 + 1)) (eaI 11) M2 := by
      intro M2 K2 h2 g450 g425 g554 g150
      exact rfT M2 K2 h2 (fun cc M3 h3 => mo_retr (X := 1) (k := k) (n := n) (m2 := m2) h3 ha (by decide) hk24 rfl hf rfl rfl rfl rfl (fun y => g450 y cc M3 h3) (fun y y2 => g425 y y2 cc M3 h3) (fun y y2 y3 => g554 y y2 y3 cc M3 h3) (fun y y2 y3 M4 h4 => g150 y y2 y3 cc M4 h4))
    refine pl_sendB (k := k) (n := n) (asc := (mz_i m2 (51, 0) 1)) (m1 := m1) (m2 := m2) (L1 := L1) (L1' := L1) (L2 := L2) h5 hE hN5 hk24 rfl (s10.1.trans ek) hf rfl s13 s12.1 t16.2.2.2.2.1 (fun hm => ?_) (fun hm h52 => ?_) (fun hm h52 hkl => ?_) (fun hm h52 hkl M6 h6 => ?_)
    · skip
      rintro _ rfl
      have ht := h5.si (o := (8, 1)) (k := 16) (v := 450) rfl
      refine pl_forget (v := 450) false false false ht rfl (fg_s (by decide)) (fg_2 (by decide)) (fg_2 (by decide)) (fun M9 h9 => ?_)
      have hEE : ∀ cc : Int32, EE (fgM (mz_si (mz_si (mz_si (mz_si (mS m1 1 (spc (L1 13 1)) fr vd) (8, 1) 16 0) (8, 1) 12 (Int32.ofNat n)) (8, 1) 13 pl) (8, 1) 16 450) 1 false false false) (lu L1 15 1 ss) ((mz_si (mz_si (mz_si (mz_si (nB m2 1 a) (30, 0) 32 (Int32.ofNat (spc (L2 43 1) + 1))) (30, 0) 33 (Int32.ofNat n)) (30, 0) 34 pl) (30, 0) 35 cc)) L2 := fun cc => ⟨hE.1, ⟨s1, s2, s3, Or.inl ⟨o0, rfl⟩, rfl, s6, s7, Or.inl ⟨rfl, rfl⟩, ⟨rfl, Or.inl rfl⟩, ⟨rfl, 0, by decide, rfl⟩, s11, s12, s13, s14, s15, s16⟩, hE.2.2⟩
      refine finF_1 (m1 := m1) (m2 := m2) (v := 450) (a := a) (no := fun cc => (mz_si (mz_si (mz_si (mz_si (nB m2 1 a) (30, 0) 32 (Int32.ofNat (spc (L2 43 1) + 1))) (30, 0) 33 (Int32.ofNat n)) (30, 0) 34 pl) (30, 0) 35 cc)) hEE ha (fun _ => ha) (fun _ => rfl) (by decide) (by decide) (by decide) (by decide) (fun _ => ⟨o0, rfl⟩) (fun _ => ⟨fun _ => rfl, rfl, rfl, rfl, rfl, rfl, rfl, rfl, rfl, rfl⟩) rfl h9 (fun M1' hr => hk M1' (fun M2 K2 h2 hk2 => rB M2 K2 h2 (fun _ cc M4 h4 => hr cc M4 K2 h4 hk2) (fun z => absurd hm z) (fun z => absurd hm z) (fun z => absurd hm z)))
    · skip
      rintro _ rfl
      have ht := h5.si (o := (8, 1)) (k := 16) (v := 425) rfl
      refine pl_forget (v := 425) false false false ht rfl (fg_s (by decide)) (fg_2 (by decide)) (fg_2 (by decide)) (fun M9 h9 => ?_)
      have hEE : ∀ cc : Int32, EE (fgM (mz_si (mz_si (mz_si (mz_si (mS m1 1 (spc (L1 13 1)) fr vd) (8, 1) 16 0) (8, 1) 12 (Int32.ofNat n)) (8, 1) 13 pl) (8, 1) 16 425) 1 false false false) (lu L1 15 1 ss) ((mz_si (mz_si (mz_si (mz_si (nB m2 1 a) (30, 0) 32 (Int32.ofNat (spc (L2 43 1) + 1))) (30, 0) 33 (Int32.ofNat n)) (30, 0) 34 pl) (30, 0) 35 cc)) L2 := fun cc => ⟨hE.1, ⟨s1, s2, s3, Or.inl ⟨o0, rfl⟩, rfl, s6, s7, Or.inl ⟨rfl, rfl⟩, ⟨rfl, Or.inl rfl⟩, ⟨rfl, 0, by decide, rfl⟩, s11, s12, s13, s14, s15, s16⟩, hE.2.2⟩
      refine finF_1 (m1 := m1) (m2 := m2) (v := 425) (a := a) (no := fun cc => (mz_si (mz_si (mz_si (mz_si (nB m2 1 a) (30, 0) 32 (Int32.ofNat (spc (L2 43 1) + 1))) (30, 0) 33 (Int32.ofNat n)) (30, 0) 34 pl) (30, 0) 35 cc)) hEE ha (fun _ => ha) (fun _ => rfl) (by decide) (by decide) (by decide) (by decide) (fun _ => ⟨o0, rfl⟩) (fun _ => ⟨fun _ => rfl, rfl, rfl, rfl, rfl, rfl, rfl, rfl, rfl, rfl⟩) rfl h9 (fun M1' hr => hk M1' (fun M2 K2 h2 hk2 => rB M2 K2 h2 (fun z => absurd z hm) (fun _ _ cc M4 h4 => hr cc M4 K2 h4 hk2) (fun _ z => absurd h52 z) (fun _ z => absurd h52 z)))
    · have hkl2 : ¬ k ≤ (L2 38 n).length := by rw [← el]; exact hkl
      rintro _ rfl
      have ht := h5.si (o := (8, 1)) (k := 16) (v := 554) rfl
      refine pl_forget (v := 554) false false false ht rfl (fg_s (by decide)) (fg_2 (by decide)) (fg_2 (by decide)) (fun M9 h9 => ?_)
      have hEE : ∀ cc : Int32, EE (fgM (mz_si (mz_si (mz_si (mz_si (mS m1 1 (spc (L1 13 1)) fr vd) (8, 1) 16 0) (8, 1) 12 (Int32.ofNat n)) (8, 1) 13 pl) (8, 1) 16 554) 1 false false false) (lu L1 15 1 ss) ((mz_si (mz_si (mz_si (mz_si (nB m2 1 a) (30, 0) 32 (Int32.ofNat (spc (L2 43 1) + 1))) (30, 0) 33 (Int32.ofNat n)) (30, 0) 34 pl) (30, 0) 35 cc)) L2 := fun cc => ⟨hE.1, ⟨s1, s2, s3, Or.inl ⟨o0, rfl⟩, rfl, s6, s7, Or.inl ⟨rfl, rfl⟩, ⟨rfl, Or.inl rfl⟩, ⟨rfl, 0, by decide, rfl⟩, s11, s12, s13, s14, s15, s16⟩, hE.2.2⟩
      refine finF_1 (m1 := m1) (m2 := m2) (v := 554) (a := a) (no := fun cc => (mz_si (mz_si (mz_si (mz_si (nB m2 1 a) (30, 0) 32 (Int32.ofNat (spc (L2 43 1) + 1))) (30, 0) 33 (Int32.ofNat n)) (30, 0) 34 pl) (30, 0) 35 cc)) hEE ha (fun _ => ha) (fun _ => rfl) (by decide) (by decide) (by decide) (by decide) (fun _ => ⟨o0, rfl⟩) (fun _ => ⟨fun _ => rfl, rfl, rfl, rfl, rfl, rfl, rfl, rfl, rfl, rfl⟩) rfl h9 (fun M1' hr => hk M1' (fun M2 K2 h2 hk2 => rB M2 K2 h2 (fun z => absurd z hm) (fun _ z => absurd z h52) (fun _ _ _ cc M4 h4 => hr cc M4 K2 h4 hk2) (fun _ _ z => absurd z hkl2)))
    · have hkl2 : k ≤ (L2 38 n).length := by rw [← el]; exact hkl
      have h6' : A1 M6 (sd1 (mz_si (mz_si (mz_si (mS m1 1 (spc (L1 13 1)) fr vd) (8, 1) 16 0) (8, 1) 12 (Int32.ofNat n)) (8, 1) 13 pl) 1 n) (lu (lu L1 15 1 ss) 17 1 (fil (mz_i m2 (51, 0) 1) ((L2 38 n).drop k))) := by
        rw [← el]
        exact h6
      by_cases hl : (fil (mz_i m2 (51, 0) 1) ((L2 38 n).drop k)) = []
      · have hE1 := ee_bkf_1 (n := n) hE r53
        rw [hl] at h6'
        obtain ⟨s1, s2, s3, s4, s5, s6, s7, s8, s9, s10, s11, s12, s13, s14, s15, s16⟩ := hE1.2.1
        rintro _ rfl
        have ht := h6'.si (o := (8, 1)) (k := 16) (v := 150) rfl
        refine pl_forget (v := 150) false false false ht rfl (fg_s (by decide)) (fg_2 (by decide)) (fg_2 (by decide)) (fun M9 h9 => ?_)
        have hEE : ∀ cc : Int32, EE (wEnd (mz_si (fgM (mz_si (sd1 (mz_si (mz_si (mz_si (mS m1 1 (spc (L1 13 1)) fr vd) (8, 1) 16 0) (8, 1) 12 (Int32.ofNat n)) (8, 1) 13 pl) 1 n) (8, 1) 16 150) 1 false false false) (3, n) 4 (mz_i (fgM (mz_si (sd1 (mz_si (mz_si (mz_si (mS m1 1 (spc (L1 13 1)) fr vd) (8, 1) 16 0) (8, 1) 12 (Int32.ofNat n)) (8, 1) 13 pl) 1 n) (8, 1) 16 150) 1 false false false) (3, n) 4 - 1)) 1) (lu (lu (lu L1 15 1 ss) 17 1 []) 17 1 []) (rEnd (sd2 (mz_si (mz_si (mz_si (mz_si (nB m2 1 a) (30, 0) 32 (Int32.ofNat (spc (L2 43 1) + 1))) (30, 0) 33 (Int32.ofNat n)) (30, 0) 34 pl) (30, 0) 35 cc) 1 (Int32.ofNat n)) 1) (lu L2 58 1 []) := fun cc => ⟨hE1.1, ⟨s1, s2, s3, Or.inl ⟨o0, rfl⟩, rfl, s6, s7, Or.inl ⟨rfl, rfl⟩, ⟨rfl, Or.inl rfl⟩, ⟨rfl, 0, by decide, rfl⟩, s11, s12, s13, s14, s15, s16⟩, hE1.2.2⟩
        refine finEf_1 (m1 := m1) (m2 := m2) (a := a) (n := n) (no := fun cc => sd2 (mz_si (mz_si (mz_si (mz_si (nB m2 1 a) (30, 0) 32 (Int32.ofNat (spc (L2 43 1) + 1))) (30, 0) 33 (Int32.ofNat n)) (30, 0) 34 pl) (30, 0) 35 cc) 1 (Int32.ofNat n)) hEE ha (fun _ => ha) (fun _ => rfl) (fun _ => ⟨o0, rfl⟩) (fun _ => ⟨fun _ => rfl, rfl, rfl, rfl, rfl, rfl, rfl, rfl, rfl, rfl⟩) rfl hf.1 rfl rfl t16.2.2.2.2.2 rfl rfl (fun _ => rfl) h9 (fun M1' hr => hk M1' (fun M2 K2 h2 hk2 => rB M2 K2 h2 (fun z => absurd z hm) (fun _ z => absurd z h52) (fun _ _ z => absurd hkl2 z) (fun _ _ _ cc M4 h4 => hr cc M4 K2 (by rw [hl] at h4; exact h4) hk2)))
      · have hE1 := ee_snf_1 (l := (fil (mz_i m2 (51, 0) 1) ((L2 38 n).drop k))) hE hf hm r53 (List.length_pos_iff.mpr hl)
        obtain ⟨s1, s2, s3, s4, s5, s6, s7, s8, s9, s10, s11, s12, s13, s14, s15, s16⟩ := hE1.2.1
        rintro _ rfl
        have ht := h6'.si (o := (8, 1)) (k := 16) (v := 150) rfl
        refine pl_forget (v := 150) false false false ht rfl (fg_s (by decide)) (fg_2 (by decide)) (fg_2 (by decide)) (fun M9 h9 => ?_)
        have hEE : ∀ cc : Int32, EE (fgM (mz_si (sd1 (mz_si (mz_si (mz_si (mS m1 1 (spc (L1 13 1)) fr vd) (8, 1) 16 0) (8, 1) 12 (Int32.ofNat n)) (8, 1) 13 pl) 1 n) (8, 1) 16 150) 1 false false false) (lu (lu L1 15 1 ss) 17 1 (fil (mz_i m2 (51, 0) 1) ((L2 38 n).drop k))) (sd2 (mz_si (mz_si (mz_si (mz_si (nB m2 1 a) (30, 0) 32 (Int32.ofNat (spc (L2 43 1) + 1))) (30, 0) 33 (Int32.ofNat n)) (30, 0) 34 pl) (30, 0) 35 cc) 1 (Int32.ofNat n)) (lu L2 58 1 (fil (mz_i m2 (51, 0) 1) ((L2 38 n).drop k))) := fun cc => ⟨hE1.1, ⟨s1, s2, s3, Or.inl ⟨o0, rfl⟩, rfl, s6, s7, Or.inl ⟨rfl, rfl⟩, ⟨rfl, Or.inl rfl⟩, ⟨rfl, 0, by decide, rfl⟩, s11, s12, s13, s14, s15, s16⟩, hE1.2.2⟩
        refine finS_1 (m1 := m1) (m2 := m2) (a := a) (no := fun cc => sd2 (mz_si (mz_si (mz_si (mz_si (nB m2 1 a) (30, 0) 32 (Int32.ofNat (spc (L2 43 1) + 1))) (30, 0) 33 (Int32.ofNat n)) (30, 0) 34 pl) (30, 0) 35 cc) 1 (Int32.ofNat n)) hEE ha (fun _ => ha) (fun _ => rfl) (fun _ => ⟨o0, rfl⟩) (fun _ => ⟨fun _ => rfl, rfl, rfl, rfl, rfl, rfl, rfl, rfl, rfl, rfl⟩) rfl hl h9 (fun M1' hr => hk M1' (fun M2 K2 h2 hk2 => rB M2 K2 h2 (fun z => absurd z hm) (fun _ z => absurd z h52) (fun _ _ z => absurd hkl2 z) (fun _ _ _ cc M4 h4 => hr cc M4 K2 h4 hk2)))
  · have hz : ∀ n : Nat, ¬ (filE m2 n ∧ tg = Int32.ofNat n) := fun n z => hfil ⟨n, z⟩
    refine pl_sendC (m2 := m2) (L1 := L1) (L2 := L2) (tg := tg) h5 hN5 rfl hz ?_
    rintro _ rfl
    have ht := h5.si (o := (8, 1)) (k := 16) (v := 550) rfl
    refine pl_forget (v := 550) false false false ht rfl (fg_s (by decide)) (fg_2 (by decide)) (fg_2 (by decide)) (fun M9 h9 => ?_)
    have hEE : ∀ cc : Int32, EE (fgM (mz_si (mz_si (mz_si (mz_si (mS m1 1 (spc (L1 13 1)) fr vd) (8, 1) 16 0) (8, 1) 12 tg) (8, 1) 13 pl) (8, 1) 16 550) 1 false false false) (lu L1 15 1 ss) ((mz_si (mz_si (mz_si (mz_si (nB m2 1 a) (30, 0) 32 (Int32.ofNat (spc (L2 43 1) + 1))) (30, 0) 33 tg) (30, 0) 34 pl) (30, 0) 35 cc)) L2 := fun cc => ⟨hE.1, ⟨s1, s2, s3, Or.inl ⟨o0, rfl⟩, rfl, s6, s7, Or.inl ⟨rfl, rfl⟩, ⟨rfl, Or.inl rfl⟩, ⟨rfl, 0, by decide, rfl⟩, s11, s12, s13, s14, s15, s16⟩, hE.2.2⟩
    refine finF_1 (m1 := m1) (m2 := m2) (v := 550) (a := a) (no := fun cc => (mz_si (mz_si (mz_si (mz_si (nB m2 1 a) (30, 0) 32 (Int32.ofNat (spc (L2 43 1) + 1))) (30, 0) 33 tg) (30, 0) 34 pl) (30, 0) 35 cc)) hEE ha (fun _ => ha) (fun _ => rfl) (by decide) (by decide) (by decide) (by decide) (fun _ => ⟨o0, rfl⟩) (fun _ => ⟨fun _ => rfl, rfl, rfl, rfl, rfl, rfl, rfl, rfl, rfl, rfl⟩) rfl h9 (fun M1' hr => hk M1' (fun M2 K2 h2 hk2 => rfT M2 K2 h2 (fun cc M3 h3 => mo_retrC (m2 := m2) (tg := tg) h3 htg rfl rfl (fun n hn => (hN n hn).2.1) hz (hr cc M3 K2 h3 hk2))))
theorem ob_1_14 : obPred 1 14 := by
  intro m1 m2 M L1 L2 fr vd a ss K hE o0 ha hfit hW hD hA hfr hss h hk
  obtain ⟨s1, s2, s3, s4, s5, s6, s7, s8, s9, s10, s11, s12, s13, s14, s15, s16⟩ := hE.2.1
  have hcl := spc_le (L1 13 1)
  have h30 : (L1 13 1).length ≤ 30 := (h.line 1).2.1
  have sl : spc (L2 43 1) = spc (L1 13 1) := by rw [s3]
  have r53 : mz_i m2 (53, 0) 1 = 0 := s14.symm.trans (hD.elim (fun z => absurd rfl z) id)
  have s16' := s16
  rcases s16' with t16 | ⟨t16, _⟩ | ⟨t16, _⟩
  rotate_left
  · exact absurd (r53.symm.trans t16) (by decide)
  · exact absurd (r53.symm.trans t16) (by decide)
  have hN := hE.2.2.1
  obtain ⟨lst, hlst⟩ : ∃ l : List Int32, l = nmsL (gN m2 (mz_i m2 (50, 0) 1)) 15 1 := ⟨_, rfl⟩
  have rf : ∀ (M2 : MzM) (K2 : MzM → Prop), A2 M2 (mz_si (nB m2 1 a) (30, 0) 32 (Int32.ofNat (spc (L2 43 1) + 1))) L2 → (mz_i m2 (52, 0) 1 = 0 → wp_Mo_answer 425 M2 (clrK a K2)) → (¬ mz_i m2 (52, 0) 1 = 0 → ∀ M3, A2 M3 (sd2 (mz_si (nB m2 1 a) (30, 0) 32 (Int32.ofNat (spc (L2 43 1) + 1))) 1 (-1)) (lu L2 58 1 lst) → wp_Mo_answer 150 M3 (bsK (clrK a K2))) → wp_Mo_doLine_255 (clrK a K2) (mz_i m2 (47, 0) 1) (mz_i m2 (48, 0) 1) (mz_i m2 (49, 0) 1) (Int32.ofNat (14 + 1)) (eaI 14) M2 := by
    intro M2 K2 h2 g425 g150
    have s0 : (mz_i M2 (30, 0) 29).toInt = ((1 : Nat) : Int) := by rw [h2.1 30 29 rfl]; exact ha
    have e52 : mz_i M2 (52, 0) 1 = mz_i m2 (52, 0) 1 := h2.1 52 1 rfl
    refine ⟨fun _ => mo_pc (fun z => absurd z (by decide)) (fun _ => ⟨fun _ => ?_, fun z => absurd rfl z⟩), fun z => absurd z (by decide)⟩
    refine ⟨fun z => absurd z (by decide), fun z => absurd z (by decide), fun z => absurd z (by decide), fun z => absurd z (by decide), fun z => absurd z (by decide), fun z => absurd z (by decide), fun n5 n6 n8 n10 n11 n16 => ⟨1, s0, by decide, fun z => g425 (e52.symm.trans z), fun z => ⟨1, s0, by decide, ?_⟩⟩⟩
    rintro _ rfl
    have hz := h2.clr (t := 58) (i := 1) rfl
    refine ⟨15 + 1, mo_names_loop (x := 1) (m := (mz_si (nB m2 1 a) (30, 0) 32 (Int32.ofNat (spc (L2 43 1) + 1)))) (m1 := m1) (m2 := m2) (L := L2) (L1 := L1) (L2 := L2) ha (by decide) rfl rfl rfl rfl hN 15 1 [] _ rfl (by decide) hz (by decide) (fun M' h' => ?_)⟩
    rw [List.nil_append, ← hlst] at h'
    exact mo_beginSending h' ha (by decide) (fun M4 h4 => g150 (fun w => z (e52.trans w)) M4 h4)
  have e16 : mz_i M (16, 1) 0 = mz_i m2 (52, 0) 1 := (h.1 (16, 1) 0 rfl).trans s13
  refine ⟨fun z => absurd z (by decide), fun _ => ⟨14, rfl, by decide, fun z => absurd z (by decide), fun z => absurd z (by decide), fun z => absurd z (by decide), fun z => absurd z (by decide), fun z => absurd z (by decide), fun z => absurd z (by decide), fun z => absurd z (by decide), fun z => absurd z (by decide), fun z => absurd z (by decide), fun _ => ⟨fun h52 => ?_, fun h52 => ?_⟩, fun z => absurd z (by decide), fun n1 n2 n3 n4 n5 n6 n7 n8 n9 n10 n11 => absurd rfl n10⟩⟩
  · rw [e16] at h52
    rintro _ rfl
    have e17 : lu (lu L1 15 1 ss) 17 1 [] = (lu L1 15 1 ss) := by
      have q : (lu L1 15 1 ss) 17 1 = [] := t16.2.2.2.2.1
      rw [← q]
      exact lu_id _ _ _
    have h3 : A1 (mz_si M (16, 1) 1 1) (mz_si (mz_si (mS m1 1 (spc (L1 13 1)) fr vd) (8, 1) 16 0) (16, 1) 1 1) (lu (lu L1 15 1 ss) 17 1 []) := by
      rw [e17]
      exact h.si (o := (16, 1)) (k := 1) (v := 1) rfl
    refine ⟨15 + 1, pl_names_loop (x := 1) (cur := mz_i m2 (50, 0) 1) (m := (mz_si (mz_si (mS m1 1 (spc (L1 13 1)) fr vd) (8, 1) 16 0) (16, 1) 1 1)) (m2 := m2) (L := (lu L1 15 1 ss)) (L1 := L1) (L2 := L2) (by decide) s1 s11.1 hN 15 1 [] _ rfl (by decide) h3 (by decide) (fun M6 h6 => ?_)⟩
    rw [List.nil_append, ← hlst] at h6
    have h6' : A1 M6 (mz_si (mz_si (mS m1 1 (spc (L1 13 1)) fr vd) (8, 1) 16 0) (16, 1) 1 1) (lu (lu L1 15 1 ss) 17 1 lst) := h6
    by_cases hl : lst = []
    · have hE1 := ee_bkn_1 hE r53
      rw [hl] at h6'
      obtain ⟨s1, s2, s3, s4, s5, s6, s7, s8, s9, s10, s11, s12, s13, s14, s15, s16⟩ := hE1.2.1
      rintro _ rfl
      have ht := h6'.si (o := (8, 1)) (k := 16) (v := 150) rfl
      refine pl_forget (v := 150) false false false ht rfl (fg_s (by decide)) (fg_2 (by decide)) (fg_2 (by decide)) (fun M9 h9 => ?_)
      have hEE : ∀ cc : Int32, EE (wEnd (fgM (mz_si (mz_si (mz_si (mS m1 1 (spc (L1 13 1)) fr vd) (8, 1) 16 0) (16, 1) 1 1) (8, 1) 16 150) 1 false false false) 1) (lu (lu (lu L1 15 1 ss) 17 1 []) 17 1 []) (rEnd (sd2 (mz_si (nB m2 1 a) (30, 0) 32 (Int32.ofNat (spc (L2 43 1) + 1))) 1 (-1)) 1) (lu L2 58 1 []) := fun cc => ⟨hE1.1, ⟨s1, s2, s3, Or.inl ⟨o0, rfl⟩, rfl, s6, s7, Or.inl ⟨rfl, rfl⟩, ⟨rfl, Or.inl rfl⟩, ⟨rfl, 0, by decide, rfl⟩, s11, s12, s13, s14, s15, s16⟩, hE1.2.2⟩
      refine finEn_1 (m1 := m1) (m2 := m2) (a := a) (n := 0) (no := fun cc => sd2 (mz_si (nB m2 1 a) (30, 0) 32 (Int32.ofNat (spc (L2 43 1) + 1))) 1 (-1)) hEE ha (fun _ => ha) (fun _ => rfl) (fun _ => ⟨o0, rfl⟩) (fun _ => ⟨fun _ => rfl, rfl, rfl, rfl, rfl, rfl, rfl, rfl, rfl, rfl⟩) rfl t16.2.1 rfl t16.2.2.2.2.2 rfl rfl (fun _ => rfl) h9 (fun M1' hr => hk M1' (fun M2 K2 h2 hk2 => rf M2 K2 h2 (fun z => absurd z h52) (fun _ M4 h4 => hr 0 M4 K2 (by rw [hl] at h4; exact h4) hk2)))
    · have hE1 := ee_snm_1 (l := lst) hE r53 (List.length_pos_iff.mpr hl)
      obtain ⟨s1, s2, s3, s4, s5, s6, s7, s8, s9, s10, s11, s12, s13, s14, s15, s16⟩ := hE1.2.1
      rintro _ rfl
      have ht := h6'.si (o := (8, 1)) (k := 16) (v := 150) rfl
      refine pl_forget (v := 150) false false false ht rfl (fg_s (by decide)) (fg_2 (by decide)) (fg_2 (by decide)) (fun M9 h9 => ?_)
      have hEE : ∀ cc : Int32, EE (fgM (mz_si (mz_si (mz_si (mS m1 1 (spc (L1 13 1)) fr vd) (8, 1) 16 0) (16, 1) 1 1) (8, 1) 16 150) 1 false false false) (lu (lu L1 15 1 ss) 17 1 lst) (sd2 (mz_si (nB m2 1 a) (30, 0) 32 (Int32.ofNat (spc (L2 43 1) + 1))) 1 (-1)) (lu L2 58 1 lst) := fun cc => ⟨hE1.1, ⟨s1, s2, s3, Or.inl ⟨o0, rfl⟩, rfl, s6, s7, Or.inl ⟨rfl, rfl⟩, ⟨rfl, Or.inl rfl⟩, ⟨rfl, 0, by decide, rfl⟩, s11, s12, s13, s14, s15, s16⟩, hE1.2.2⟩
      refine finS_1 (m1 := m1) (m2 := m2) (a := a) (no := fun cc => sd2 (mz_si (nB m2 1 a) (30, 0) 32 (Int32.ofNat (spc (L2 43 1) + 1))) 1 (-1)) hEE ha (fun _ => ha) (fun _ => rfl) (fun _ => ⟨o0, rfl⟩) (fun _ => ⟨fun _ => rfl, rfl, rfl, rfl, rfl, rfl, rfl, rfl, rfl, rfl⟩) rfl hl h9 (fun M1' hr => hk M1' (fun M2 K2 h2 hk2 => rf M2 K2 h2 (fun z => absurd z h52) (fun _ M4 h4 => hr 0 M4 K2 h4 hk2)))
  · rw [e16] at h52
    rintro _ rfl
    have ht := h.si (o := (8, 1)) (k := 16) (v := 425) rfl
    refine pl_forget (v := 425) false false false ht rfl (fg_s (by decide)) (fg_2 (by decide)) (fg_2 (by decide)) (fun M9 h9 => ?_)
    have hEE : EE (fgM (mz_si (mz_si (mS m1 1 (spc (L1 13 1)) fr vd) (8, 1) 16 0) (8, 1) 16 425) 1 false false false) (lu L1 15 1 ss) (mz_si (nB m2 1 a) (30, 0) 32 (Int32.ofNat (spc (L2 43 1) + 1))) L2 := ⟨hE.1, ⟨s1, s2, s3, Or.inl ⟨o0, rfl⟩, rfl, s6, s7, Or.inl ⟨rfl, rfl⟩, ⟨rfl, Or.inl rfl⟩, ⟨rfl, 0, by decide, rfl⟩, s11, s12, s13, s14, s15, s16⟩, hE.2.2⟩
    refine fin5_1 (m1 := m1) (m2 := m2) (v := 425) (a := a) hEE ha ha rfl (by decide) (by decide) (by decide) (by decide) ⟨o0, rfl⟩ ⟨fun _ => rfl, rfl, rfl, rfl, rfl, rfl, rfl, rfl, rfl, rfl⟩ rfl h9 (fun M1' hr => hk M1' (fun M2 K2 h2 hk2 => rf M2 K2 h2 (fun _ => hr M2 K2 h2 hk2) (fun z => absurd h52 z)))
