theorem ob_0_5 : obPred 0 5 := by
  intro m1 m2 M L1 L2 fr vd a ss K hE o0 ha hfit hW hD hA hfr hss h hk
  obtain ⟨s1, s2, s3, s4, s5, s6, s7, s8, s9, s10, s11, s12, s13, s14, s15, s16⟩ := hE.1
  have hcl := spc_le (L1 13 0)
  have h30 : (L1 13 0).length ≤ 30 := (h.line 0).2.1
  have sl : spc (L2 43 0) = spc (L1 13 0) := by rw [s3]
  have hu : ¬ mz_i m1 (8, 0) 7 = 0 := hW.elim (fun z => absurd z (by decide)) id
  have hw0 : ¬ mz_i m2 (46, 0) 0 = 0 := by
    rcases s7 with ⟨p, q⟩ | ⟨p, q⟩ | ⟨p, q⟩
    · exact absurd q hu
    · rw [p]; decide
    · rw [p]; decide
  have hcur : ∃ n : Nat, dirE m2 n ∧ mz_i m2 (50, 0) 0 = Int32.ofNat n := s11.2.elim (fun z => absurd z.1 hw0) (fun z => z.2)
  obtain ⟨n, hn, en⟩ := hcur
  have e6 : mz_i M (6, 0) 0 = Int32.ofNat n := ((h.1 (6, 0) 0 rfl).trans s11.1).trans en
  have e0 : (mz_i M (8, 0) 0).toInt = ((0 : Nat) : Int) := by
    rw [h.1 (8, 0) 0 rfl]
    exact (congrArg Int32.toInt s1).trans (by decide)
  refine ⟨fun z => absurd z (by decide), fun _ => ⟨5, rfl, by decide, fun z => absurd z (by decide), fun z => absurd z (by decide), fun z => absurd z (by decide), fun z => absurd z (by decide), fun z => absurd z (by decide), fun _ => ⟨0, e0, by decide, ?_⟩, fun z => absurd z (by decide), fun z => absurd z (by decide), fun z => absurd z (by decide), fun z => absurd z (by decide), fun z => absurd z (by decide), fun n1 n2 n3 n4 n5 n6 n7 n8 n9 n10 n11 => absurd rfl n6⟩⟩
  rw [e6]
  rintro _ rfl
  have h3 := h.si (o := (8, 0)) (k := 15) (v := Int32.ofNat n) rfl
  rintro _ rfl
  have ht := h3.si (o := (8, 0)) (k := 16) (v := 257) rfl
  refine pl_forget (v := 257) false false false ht rfl (fg_s (by decide)) (fg_2 (by decide)) (fg_2 (by decide)) (fun M9 h9 => ?_)
  have hEE : ∀ cc : Int32, EE (fgM (mz_si (mz_si (mz_si (mS m1 0 (spc (L1 13 0)) fr vd) (8, 0) 16 0) (8, 0) 15 (Int32.ofNat n)) (8, 0) 16 257) 0 false false false) (lu L1 15 0 ss) ((mz_si (nB m2 0 a) (30, 0) 32 (Int32.ofNat (spc (L2 43 0) + 1)))) L2 := fun cc => ⟨⟨s1, s2, s3, Or.inl ⟨o0, rfl⟩, rfl, s6, s7, Or.inl ⟨rfl, rfl⟩, ⟨rfl, Or.inl rfl⟩, ⟨rfl, 0, by decide, rfl⟩, s11, s12, s13, s14, s15, s16⟩, hE.2.1, hE.2.2⟩
  refine fin257_0 (m1 := m1) (m2 := m2) (a := a) (n := n) (no := fun cc => (mz_si (nB m2 0 a) (30, 0) 32 (Int32.ofNat (spc (L2 43 0) + 1)))) (f32 := mz_i m2 (32, 0)) (f34 := mz_i m2 (34, 0)) (f35 := mz_i m2 (35, 0)) hEE (fun _ _ => rfl) (fun _ _ => rfl) (fun _ _ => rfl) hn.1 hn.2.1 ha (fun _ => ha) (fun _ => rfl) (fun _ => ⟨o0, rfl⟩) (fun _ => ⟨fun _ => rfl, rfl, rfl, rfl, rfl, rfl, rfl, rfl, rfl, rfl⟩) rfl rfl h9 (fun M1' hr => hk M1' (fun M2 K2 h2 hk2 => ?_))
  have s0 : (mz_i M2 (30, 0) 29).toInt = ((0 : Nat) : Int) := by rw [h2.1 30 29 rfl]; exact ha
  have e50 : mz_i M2 (50, 0) 0 = Int32.ofNat n := (h2.1 50 0 rfl).trans en
  refine ⟨fun _ => mo_pc (fun z => absurd z (by decide)) (fun _ => ⟨fun _ => ?_, fun z => absurd rfl z⟩), fun z => absurd z (by decide)⟩
  refine ⟨fun z => absurd z (by decide), fun _ => ⟨0, s0, by decide, ?_⟩, fun z => absurd z (by decide), fun z => absurd z (by decide), fun z => absurd z (by decide), fun z => absurd z (by decide), fun n5 n6 n8 n10 n11 n16 => absurd rfl n6⟩
  rw [e50]
  exact hr 0 M2 K2 h2 hk2
theorem ob_0_17 : obPred 0 17 := by
  intro m1 m2 M L1 L2 fr vd a ss K hE o0 ha hfit hW hD hA hfr hss h hk
  obtain ⟨s1, s2, s3, s4, s5, s6, s7, s8, s9, s10, s11, s12, s13, s14, s15, s16⟩ := hE.1
  have hcl := spc_le (L1 13 0)
  have h30 : (L1 13 0).length ≤ 30 := (h.line 0).2.1
  have sl : spc (L2 43 0) = spc (L1 13 0) := by rw [s3]
  have hu : ¬ mz_i m1 (8, 0) 7 = 0 := hW.elim (fun z => absurd z (by decide)) id
  have hp : pth (L1 13 0) (spc (L1 13 0) + 1) = some ss := hss ((hz5 hfit).2.2 rfl)
  have hN := hE.2.2.1
  have hr0 := hE.2.2.2.2.1
  have hw0 : ¬ mz_i m2 (46, 0) 0 = 0 := by
    rcases s7 with ⟨p, q⟩ | ⟨p, q⟩ | ⟨p, q⟩
    · exact absurd q hu
    · rw [p]; decide
    · rw [p]; decide
  obtain ⟨tg, pl, htg, hpl, hpn, hcls, href⟩ := path_0 hE ha hu hfr hp h
  refine ⟨fun _ => hcls _ (fun M5 h5 => ⟨17, rfl, by decide, fun z => absurd z (by decide), fun z => absurd z (by decide), fun z => absurd z (by decide), fun z => absurd z (by decide), fun z => absurd z (by decide), fun z => absurd z (by decide), fun _ => ?_, fun z => absurd z (by decide), fun z => absurd z (by decide), fun z => absurd z (by decide), fun n12 n13 n14 n15 n16 n17 n18 n19 n20 n21 => absurd rfl n18⟩), fun z => absurd rfl z⟩
  have e12 : mz_i M5 (8, 0) 12 = tg := h5.1 (8, 0) 12 rfl
  have e13 : mz_i M5 (8, 0) 13 = pl := h5.1 (8, 0) 13 rfl
  have rf : ∀ (M2 : MzM) (K2 : MzM → Prop), A2 M2 (mz_si (nB m2 0 a) (30, 0) 32 (Int32.ofNat (spc (L2 43 0) + 1))) L2 → (pl = -1 → ∀ cc M4, A2 M4 (mz_si (mz_si (mz_si (mz_si (nB m2 0 a) (30, 0) 32 (Int32.ofNat (spc (L2 43 0) + 1))) (30, 0) 33 tg) (30, 0) 34 pl) (30, 0) 35 cc) L2 → wp_Mo_answer 550 M4 (clrK a K2)) → (¬ pl = -1 → frN m2 = -1 → ∀ cc M4, A2 M4 (mz_si (mz_si (mz_si (mz_si (nB m2 0 a) (30, 0) 32 (Int32.ofNat (spc (L2 43 0) + 1))) (30, 0) 33 tg) (30, 0) 34 pl) (30, 0) 35 cc) L2 → wp_Mo_answer 552 M4 (clrK a K2)) → (¬ pl = -1 → ∀ n : Nat, n < 16 → frN m2 = Int32.ofNat n → ∀ cc M4, A2 M4 (mk2 (mz_si (mz_si (mz_si (mz_si (nB m2 0 a) (30, 0) 32 (Int32.ofNat (spc (L2 43 0) + 1))) (30, 0) 33 tg) (30, 0) 34 pl) (30, 0) 35 cc) n 0 pl (lsI ss) 1) (lu L2 38 n []) → wp_Mo_replyPath (Int32.ofNat n) M4 (clrK a K2)) → wp_Mo_doLine_255 (clrK a K2) (mz_i m2 (47, 0) 0) (mz_i m2 (48, 0) 0) (mz_i m2 (49, 0) 0) (Int32.ofNat (17 + 1)) (eaI 17) M2 := by
    intro M2 K2 h2 g550 g552 g257
    refine ⟨fun _ => mo_pc (fun _ => ⟨fun z => absurd z (by decide), fun _ => href M2 _ h2 (fun M3 cc h3 hcc => ⟨fun z => absurd z (by decide), fun _ => ⟨fun _ => ?_, fun z => absurd (by decide) z⟩⟩)⟩) (fun z => absurd z (by decide)), fun z => absurd z (by decide)⟩
    have e34 : mz_i M3 (30, 0) 34 = pl := h3.1 30 34 rfl
    have efr : frN (mz_si (mz_si (mz_si (mz_si (nB m2 0 a) (30, 0) 32 (Int32.ofNat (spc (L2 43 0) + 1))) (30, 0) 33 tg) (30, 0) 34 pl) (30, 0) 35 cc) = frN m2 := rfl
    have go : ∀ ys0 : Int32, wp_Mo_doPath_24 (clrK a K2) (Int32.ofNat (17 + 1)) (mz_i m2 (48, 0) 0) ys0 M3 := by
      intro ys0
      refine mo_freeNode h3 ?_
      rw [efr]
      refine ⟨fun z => absurd z (by decide), fun z => absurd z (by decide), fun z => absurd z (by decide), fun _ => ?_, fun z => absurd z (by decide), fun z => absurd z (by decide), fun n7 n9 n17 n18 n19 n20 => absurd rfl n18⟩
      have g215 : (pl = -1 ∨ frN m2 = -1) → wp_Mo_doPath_215 (clrK a K2) M3 := by
        intro hq
        unfold wp_Mo_doPath_215
        rw [e34]
        rcases hpl with qpl | ⟨p, hp, epl⟩
        · exact ⟨fun z => absurd z (by rw [qpl]; decide), fun _ => g550 qpl cc M3 h3⟩
        · have hpl1 : ¬ pl = -1 := by
            rw [epl]
            exact fun z => nneg hp.1 z.symm
          have h52 := hq.elim (fun z => absurd z hpl1) id
          refine ⟨fun _ => g552 hpl1 h52 cc M3 h3, fun z => absurd ?_ z⟩
          rw [epl]
          exact (ile (m := 0) rfl (itn (n := p) (by have := hp.1; omega))).mpr (by omega)
      rw [e34]
      refine ⟨fun z => g215 (Or.inl ?_), fun z => ?_⟩
      · rcases hpl with qpl | ⟨p, hp, epl⟩
        · exact qpl
        · rw [epl] at z
          exact absurd ((ilt (n := 0) (itn (n := p) (by have := hp.1; omega)) rfl).mp z) (by omega)
      · have hpl1 : ¬ pl = -1 := fun w => z (by rw [w]; decide)
        rcases frN_spec (m2 := m2) with w | ⟨n, hn, hn0, hth, hfr⟩
        · exact ⟨fun y => absurd y (by rw [w]; decide), fun _ => g215 (Or.inr w)⟩
        · have tn : (Int32.ofNat n).toInt = (n : Int) := itn (by omega)
          rw [hfr]
          refine ⟨fun _ => ?_, fun y => absurd ((ile (m := 0) rfl tn).mpr (by omega)) y⟩
          refine mo_create (nm := cc) (pl := pl) h3 tn hn rfl rfl (Or.inl rfl) (fun M4 h4 => g257 hpl1 n hn hfr cc M4 ?_)
          have ec := hcc hpl1
          rw [← ec]
          exact h4
    exact mo_flag (m2 := m2) h3 rfl rfl rfl (fun n hn => (hN n hn).2.1) htg (fun _ => go 1) (fun _ => go 0)
  unfold wp_Ses_makeDirectory
  rw [e13]
  rcases hpl with qpl | ⟨p, hp, epl⟩
  · refine ⟨fun z => absurd qpl z, fun _ => ?_⟩
    rintro _ rfl
    have ht := h5.si (o := (8, 0)) (k := 16) (v := 550) rfl
    refine pl_forget (v := 550) false false false ht rfl (fg_s (by decide)) (fg_2 (by decide)) (fg_2 (by decide)) (fun M9 h9 => ?_)
    have hEE : ∀ cc : Int32, EE (fgM (mz_si (mz_si (mz_si (mz_si (mS m1 0 (spc (L1 13 0)) fr vd) (8, 0) 16 0) (8, 0) 12 tg) (8, 0) 13 pl) (8, 0) 16 550) 0 false false false) (lu L1 15 0 ss) ((mz_si (mz_si (mz_si (mz_si (nB m2 0 a) (30, 0) 32 (Int32.ofNat (spc (L2 43 0) + 1))) (30, 0) 33 tg) (30, 0) 34 pl) (30, 0) 35 cc)) L2 := fun cc => ⟨⟨s1, s2, s3, Or.inl ⟨o0, rfl⟩, rfl, s6, s7, Or.inl ⟨rfl, rfl⟩, ⟨rfl, Or.inl rfl⟩, ⟨rfl, 0, by decide, rfl⟩, s11, s12, s13, s14, s15, s16⟩, hE.2.1, hE.2.2⟩
    refine finF_0 (m1 := m1) (m2 := m2) (v := 550) (a := a) (no := fun cc => (mz_si (mz_si (mz_si (mz_si (nB m2 0 a) (30, 0) 32 (Int32.ofNat (spc (L2 43 0) + 1))) (30, 0) 33 tg) (30, 0) 34 pl) (30, 0) 35 cc)) hEE ha (fun _ => ha) (fun _ => rfl) (by decide) (by decide) (by decide) (by decide) (fun _ => ⟨o0, rfl⟩) (fun _ => ⟨fun _ => rfl, rfl, rfl, rfl, rfl, rfl, rfl, rfl, rfl, rfl⟩) rfl h9 (fun M1' hr => hk M1' (fun M2 K2 h2 hk2 => rf M2 K2 h2 (fun _ cc M4 h4 => hr cc M4 K2 h4 hk2) (fun z => absurd qpl z) (fun z => absurd qpl z)))
  · have hpl1 : ¬ pl = -1 := by
      rw [epl]
      exact fun z => nneg hp.1 z.symm
    obtain ⟨qtg, hnm⟩ := hpn hpl1
    refine ⟨fun _ => pl_newName h5 ?_, fun z => absurd z hpl1⟩
    have els : lsI ((lu L1 15 0 ss) 15 0) = lsI ss := by rw [lu_same]
    rw [els]
    refine pl_make (m1 := m1) (m2 := m2) (L1 := L1) (L2 := L2) h5 hN (fun _ => rfl) (fun w => ?_) (fun n hn hn0 hth hfr M6 h6 => ?_)
    · rintro _ rfl
      have h7 := h5.si (o := (8, 0)) (k := 15) (v := -1) rfl
      refine ⟨fun z => absurd rfl z, fun _ => ?_⟩
      rintro _ rfl
      have ht := h7.si (o := (8, 0)) (k := 16) (v := 552) rfl
      refine pl_forget (v := 552) false false false ht rfl (fg_s (by decide)) (fg_2 (by decide)) (fg_2 (by decide)) (fun M9 h9 => ?_)
      have hEE : ∀ cc : Int32, EE (fgM (mz_si (mz_si (mz_si (mz_si (mz_si (mS m1 0 (spc (L1 13 0)) fr vd) (8, 0) 16 0) (8, 0) 12 tg) (8, 0) 13 pl) (8, 0) 15 (-1)) (8, 0) 16 552) 0 false false false) (lu L1 15 0 ss) ((mz_si (mz_si (mz_si (mz_si (nB m2 0 a) (30, 0) 32 (Int32.ofNat (spc (L2 43 0) + 1))) (30, 0) 33 tg) (30, 0) 34 pl) (30, 0) 35 cc)) L2 := fun cc => ⟨⟨s1, s2, s3, Or.inl ⟨o0, rfl⟩, rfl, s6, s7, Or.inl ⟨rfl, rfl⟩, ⟨rfl, Or.inl rfl⟩, ⟨rfl, 0, by decide, rfl⟩, s11, s12, s13, s14, s15, s16⟩, hE.2.1, hE.2.2⟩
      refine finF_0 (m1 := m1) (m2 := m2) (v := 552) (a := a) (no := fun cc => (mz_si (mz_si (mz_si (mz_si (nB m2 0 a) (30, 0) 32 (Int32.ofNat (spc (L2 43 0) + 1))) (30, 0) 33 tg) (30, 0) 34 pl) (30, 0) 35 cc)) hEE ha (fun _ => ha) (fun _ => rfl) (by decide) (by decide) (by decide) (by decide) (fun _ => ⟨o0, rfl⟩) (fun _ => ⟨fun _ => rfl, rfl, rfl, rfl, rfl, rfl, rfl, rfl, rfl, rfl⟩) rfl h9 (fun M1' hr => hk M1' (fun M2 K2 h2 hk2 => rf M2 K2 h2 (fun z => absurd z hpl1) (fun _ _ cc M4 h4 => hr cc M4 K2 h4 hk2) (fun _ n hn z => absurd (w.symm.trans z) (nneg hn))))
    · rintro _ rfl
      have h7 := h6.si (o := (8, 0)) (k := 15) (v := Int32.ofNat n) rfl
      refine ⟨fun _ => ?_, fun z => absurd z.symm (nneg hn)⟩
      have hE1 : EE (mk1 m1 n 1 pl (lsI ss)) (lu L1 5 n []) (mk2 m2 n 0 pl (lsI ss) 1) (lu L2 38 n []) := by
        rw [epl]
        exact ee_mk hE hn hn0 hth hp hnm (Or.inr ⟨rfl, rfl⟩)
      have hb := mk2_n m2 n 0 pl (lsI ss) 1
      obtain ⟨s1, s2, s3, s4, s5, s6, s7, s8, s9, s10, s11, s12, s13, s14, s15, s16⟩ := hE1.1
      rintro _ rfl
      have ht := h7.si (o := (8, 0)) (k := 16) (v := 257) rfl
      refine pl_forget (v := 257) false false false ht rfl (fg_s (by decide)) (fg_2 (by decide)) (fg_2 (by decide)) (fun M9 h9 => ?_)
      have hEE : ∀ cc : Int32, EE (fgM (mz_si (mz_si (mk1 (mz_si (mz_si (mz_si (mS m1 0 (spc (L1 13 0)) fr vd) (8, 0) 16 0) (8, 0) 12 tg) (8, 0) 13 pl) n 1 pl (lsI ss)) (8, 0) 15 (Int32.ofNat n)) (8, 0) 16 257) 0 false false false) (lu (lu L1 15 0 ss) 5 n []) (mk2 (mz_si (mz_si (mz_si (mz_si (nB m2 0 a) (30, 0) 32 (Int32.ofNat (spc (L2 43 0) + 1))) (30, 0) 33 tg) (30, 0) 34 pl) (30, 0) 35 cc) n 0 pl (lsI ss) 1) (lu L2 38 n []) := fun cc => ⟨⟨s1, s2, s3, Or.inl ⟨o0, rfl⟩, rfl, s6, s7, Or.inl ⟨rfl, rfl⟩, ⟨rfl, Or.inl rfl⟩, ⟨rfl, 0, by decide, rfl⟩, s11, s12, s13, s14, s15, s16⟩, hE1.2⟩
      refine fin257_0 (m1 := m1) (m2 := m2) (a := a) (n := n) (no := fun cc => mk2 (mz_si (mz_si (mz_si (mz_si (nB m2 0 a) (30, 0) 32 (Int32.ofNat (spc (L2 43 0) + 1))) (30, 0) 33 tg) (30, 0) 34 pl) (30, 0) 35 cc) n 0 pl (lsI ss) 1) (f32 := mz_i (mk2 m2 n 0 pl (lsI ss) 1) (32, 0)) (f34 := mz_i (mk2 m2 n 0 pl (lsI ss) 1) (34, 0)) (f35 := mz_i (mk2 m2 n 0 pl (lsI ss) 1) (35, 0)) hEE (fun _ _ => rfl) (fun _ _ => rfl) (fun _ _ => rfl) hn hb.1 ha (fun _ => ha) (fun _ => rfl) (fun _ => ⟨o0, rfl⟩) (fun _ => ⟨fun _ => rfl, rfl, rfl, rfl, rfl, rfl, rfl, rfl, rfl, rfl⟩) rfl rfl h9 (fun M1' hr => hk M1' (fun M2 K2 h2 hk2 => rf M2 K2 h2 (fun z => absurd z hpl1) (fun _ z => absurd (z.symm.trans hfr) (nneg hn)) (fun _ n' hn' hfr' cc M4 h4 => ?_)))
      have en := ofN_inj (by omega) (by omega) (hfr.symm.trans hfr')
      subst en
      exact hr cc M4 K2 h4 hk2
theorem ob_1_5 : obPred 1 5 := by
  intro m1 m2 M L1 L2 fr vd a ss K hE o0 ha hfit hW hD hA hfr hss h hk
  obtain ⟨s1, s2, s3, s4, s5, s6, s7, s8, s9, s10, s11, s12, s13, s14, s15, s16⟩ := hE.2.1
  have hcl := spc_le (L1 13 1)
  have h30 : (L1 13 1).length ≤ 30 := (h.line 1).2.1
  have sl : spc (L2 43 1) = spc (L1 13 1) := by rw [s3]
  have hu : ¬ mz_i m1 (8, 1) 7 = 0 := hW.elim (fun z => absurd z (by decide)) id
  have hw0 : ¬ mz_i m2 (46, 0) 1 = 0 := by
    rcases s7 with ⟨p, q⟩ | ⟨p, q⟩ | ⟨p, q⟩
    · exact absurd q hu
    · rw [p]; decide
    · rw [p]; decide
  have hcur : ∃ n : Nat, dirE m2 n ∧ mz_i m2 (50, 0) 1 = Int32.ofNat n := s11.2.elim (fun z => absurd z.1 hw0) (fun z => z.2)
  obtain ⟨n, hn, en⟩ := hcur
  have e6 : mz_i M (6, 0) 1 = Int32.ofNat n := ((h.1 (6, 0) 1 rfl).trans s11.1).trans en
  have e0 : (mz_i M (8, 1) 0).toInt = ((1 : Nat) : Int) := by
    rw [h.1 (8, 1) 0 rfl]
    exact (congrArg Int32.toInt s1).trans (by decide)
  refine ⟨fun z => absurd z (by decide), fun _ => ⟨5, rfl, by decide, fun z => absurd z (by decide), fun z => absurd z (by decide), fun z => absurd z (by decide), fun z => absurd z (by decide), fun z => absurd z (by decide), fun _ => ⟨1, e0, by decide, ?_⟩, fun z => absurd z (by decide), fun z => absurd z (by decide), fun z => absurd z (by decide), fun z => absurd z (by decide), fun z => absurd z (by decide), fun n1 n2 n3 n4 n5 n6 n7 n8 n9 n10 n11 => absurd rfl n6⟩⟩
  rw [e6]
  rintro _ rfl
  have h3 := h.si (o := (8, 1)) (k := 15) (v := Int32.ofNat n) rfl
  rintro _ rfl
  have ht := h3.si (o := (8, 1)) (k := 16) (v := 257) rfl
  refine pl_forget (v := 257) false false false ht rfl (fg_s (by decide)) (fg_2 (by decide)) (fg_2 (by decide)) (fun M9 h9 => ?_)
  have hEE : ∀ cc : Int32, EE (fgM (mz_si (mz_si (mz_si (mS m1 1 (spc (L1 13 1)) fr vd) (8, 1) 16 0) (8, 1) 15 (Int32.ofNat n)) (8, 1) 16 257) 1 false false false) (lu L1 15 1 ss) ((mz_si (nB m2 1 a) (30, 0) 32 (Int32.ofNat (spc (L2 43 1) + 1)))) L2 := fun cc => ⟨hE.1, ⟨s1, s2, s3, Or.inl ⟨o0, rfl⟩, rfl, s6, s7, Or.inl ⟨rfl, rfl⟩, ⟨rfl, Or.inl rfl⟩, ⟨rfl, 0, by decide, rfl⟩, s11, s12, s13, s14, s15, s16⟩, hE.2.2⟩
  refine fin257_1 (m1 := m1) (m2 := m2) (a := a) (n := n) (no := fun cc => (mz_si (nB m2 1 a) (30, 0) 32 (Int32.ofNat (spc (L2 43 1) + 1)))) (f32 := mz_i m2 (32, 0)) (f34 := mz_i m2 (34, 0)) (f35 := mz_i m2 (35, 0)) hEE (fun _ _ => rfl) (fun _ _ => rfl) (fun _ _ => rfl) hn.1 hn.2.1 ha (fun _ => ha) (fun _ => rfl) (fun _ => ⟨o0, rfl⟩) (fun _ => ⟨fun _ => rfl, rfl, rfl, rfl, rfl, rfl, rfl, rfl, rfl, rfl⟩) rfl rfl h9 (fun M1' hr => hk M1' (fun M2 K2 h2 hk2 => ?_))
  have s0 : (mz_i M2 (30, 0) 29).toInt = ((1 : Nat) : Int) := by rw [h2.1 30 29 rfl]; exact ha
  have e50 : mz_i M2 (50, 0) 1 = Int32.ofNat n := (h2.1 50 1 rfl).trans en
  refine ⟨fun _ => mo_pc (fun z => absurd z (by decide)) (fun _ => ⟨fun _ => ?_, fun z => absurd rfl z⟩), fun z => absurd z (by decide)⟩
  refine ⟨fun z => absurd z (by decide), fun _ => ⟨1, s0, by decide, ?_⟩, fun z => absurd z (by decide), fun z => absurd z (by decide), fun z => absurd z (by decide), fun z => absurd z (by decide), fun n5 n6 n8 n10 n11 n16 => absurd rfl n6⟩
  rw [e50]
  exact hr 0 M2 K2 h2 hk2
theorem ob_1_17 : obPred 1 17 := by
  intro m1 m2 M L1 L2 fr vd a ss K hE o0 ha hfit hW hD hA hfr hss h hk
  obtain ⟨s1, s2, s3, s4, s5, s6, s7, s8, s9, s10, s11, s12, s13, s14, s15, s16⟩ := hE.2.1
  have hcl := spc_le (L1 13 1)
  have h30 : (L1 13 1).length ≤ 30 := (h.line 1).2.1
  have sl : spc (L2 43 1) = spc (L1 13 1) := by rw [s3]
  have hu : ¬ mz_i m1 (8, 1) 7 = 0 := hW.elim (fun z => absurd z (by decide)) id
  have hp : pth (L1 13 1) (spc (L1 13 1) + 1) = some ss := hss ((hz5 hfit).2.2 rfl)
  have hN := hE.2.2.1
  have hr0 := hE.2.2.2.2.1
  have hw0 : ¬ mz_i m2 (46, 0) 1 = 0 := by
    rcases s7 with ⟨p, q⟩ | ⟨p, q⟩ | ⟨p, q⟩
    · exact absurd q hu
    · rw [p]; decide
    · rw [p]; decide
  obtain ⟨tg, pl, htg, hpl, hpn, hcls, href⟩ := path_1 hE ha hu hfr hp h
  refine ⟨fun _ => hcls _ (fun M5 h5 => ⟨17, rfl, by decide, fun z => absurd z (by decide), fun z => absurd z (by decide), fun z => absurd z (by decide), fun z => absurd z (by decide), fun z => absurd z (by decide), fun z => absurd z (by decide), fun _ => ?_, fun z => absurd z (by decide), fun z => absurd z (by decide), fun z => absurd z (by decide), fun n12 n13 n14 n15 n16 n17 n18 n19 n20 n21 => absurd rfl n18⟩), fun z => absurd rfl z⟩
  have e12 : mz_i M5 (8, 1) 12 = tg := h5.1 (8, 1) 12 rfl
  have e13 : mz_i M5 (8, 1) 13 = pl := h5.1 (8, 1) 13 rfl
  have rf : ∀ (M2 : MzM) (K2 : MzM → Prop), A2 M2 (mz_si (nB m2 1 a) (30, 0) 32 (Int32.ofNat (spc (L2 43 1) + 1))) L2 → (pl = -1 → ∀ cc M4, A2 M4 (mz_si (mz_si (mz_si (mz_si (nB m2 1 a) (30, 0) 32 (Int32.ofNat (spc (L2 43 1) + 1))) (30, 0) 33 tg) (30, 0) 34 pl) (30, 0) 35 cc) L2 → wp_Mo_answer 550 M4 (clrK a K2)) → (¬ pl = -1 → frN m2 = -1 → ∀ cc M4, A2 M4 (mz_si (mz_si (mz_si (mz_si (nB m2 1 a) (30, 0) 32 (Int32.ofNat (spc (L2 43 1) + 1))) (30, 0) 33 tg) (30, 0) 34 pl) (30, 0) 35 cc) L2 → wp_Mo_answer 552 M4 (clrK a K2)) → (¬ pl = -1 → ∀ n : Nat, n < 16 → frN m2 = Int32.ofNat n → ∀ cc M4, A2 M4 (mk2 (mz_si (mz_si (mz_si (mz_si (nB m2 1 a) (30, 0) 32 (Int32.ofNat (spc (L2 43 1) + 1))) (30, 0) 33 tg) (30, 0) 34 pl) (30, 0) 35 cc) n 0 pl (lsI ss) 1) (lu L2 38 n []) → wp_Mo_replyPath (Int32.ofNat n) M4 (clrK a K2)) → wp_Mo_doLine_255 (clrK a K2) (mz_i m2 (47, 0) 1) (mz_i m2 (48, 0) 1) (mz_i m2 (49, 0) 1) (Int32.ofNat (17 + 1)) (eaI 17) M2 := by
    intro M2 K2 h2 g550 g552 g257
    refine ⟨fun _ => mo_pc (fun _ => ⟨fun z => absurd z (by decide), fun _ => href M2 _ h2 (fun M3 cc h3 hcc => ⟨fun z => absurd z (by decide), fun _ => ⟨fun _ => ?_, fun z => absurd (by decide) z⟩⟩)⟩) (fun z => absurd z (by decide)), fun z => absurd z (by decide)⟩
    have e34 : mz_i M3 (30, 0) 34 = pl := h3.1 30 34 rfl
    have efr : frN (mz_si (mz_si (mz_si (mz_si (nB m2 1 a) (30, 0) 32 (Int32.ofNat (spc (L2 43 1) + 1))) (30, 0) 33 tg) (30, 0) 34 pl) (30, 0) 35 cc) = frN m2 := rfl
    have go : ∀ ys0 : Int32, wp_Mo_doPath_24 (clrK a K2) (Int32.ofNat (17 + 1)) (mz_i m2 (48, 0) 1) ys0 M3 := by
      intro ys0
      refine mo_freeNode h3 ?_
      rw [efr]
      refine ⟨fun z => absurd z (by decide), fun z => absurd z (by decide), fun z => absurd z (by decide), fun _ => ?_, fun z => absurd z (by decide), fun z => absurd z (by decide), fun n7 n9 n17 n18 n19 n20 => absurd rfl n18⟩
      have g215 : (pl = -1 ∨ frN m2 = -1) → wp_Mo_doPath_215 (clrK a K2) M3 := by
        intro hq
        unfold wp_Mo_doPath_215
        rw [e34]
        rcases hpl with qpl | ⟨p, hp, epl⟩
        · exact ⟨fun z => absurd z (by rw [qpl]; decide), fun _ => g550 qpl cc M3 h3⟩
        · have hpl1 : ¬ pl = -1 := by
            rw [epl]
            exact fun z => nneg hp.1 z.symm
          have h52 := hq.elim (fun z => absurd z hpl1) id
          refine ⟨fun _ => g552 hpl1 h52 cc M3 h3, fun z => absurd ?_ z⟩
          rw [epl]
          exact (ile (m := 0) rfl (itn (n := p) (by have := hp.1; omega))).mpr (by omega)
      rw [e34]
      refine ⟨fun z => g215 (Or.inl ?_), fun z => ?_⟩
      · rcases hpl with qpl | ⟨p, hp, epl⟩
        · exact qpl
        · rw [epl] at z
          exact absurd ((ilt (n := 0) (itn (n := p) (by have := hp.1; omega)) rfl).mp z) (by omega)
      · have hpl1 : ¬ pl = -1 := fun w => z (by rw [w]; decide)
        rcases frN_spec (m2 := m2) with w | ⟨n, hn, hn0, hth, hfr⟩
        · exact ⟨fun y => absurd y (by rw [w]; decide), fun _ => g215 (Or.inr w)⟩
        · have tn : (Int32.ofNat n).toInt = (n : Int) := itn (by omega)
          rw [hfr]
          refine ⟨fun _ => ?_, fun y => absurd ((ile (m := 0) rfl tn).mpr (by omega)) y⟩
          refine mo_create (nm := cc) (pl := pl) h3 tn hn rfl rfl (Or.inl rfl) (fun M4 h4 => g257 hpl1 n hn hfr cc M4 ?_)
          have ec := hcc hpl1
          rw [← ec]
          exact h4
    exact mo_flag (m2 := m2) h3 rfl rfl rfl (fun n hn => (hN n hn).2.1) htg (fun _ => go 1) (fun _ => go 0)
  unfold wp_Ses_makeDirectory
  rw [e13]
  rcases hpl with qpl | ⟨p, hp, epl⟩
  · refine ⟨fun z => absurd qpl z, fun _ => ?_⟩
    rintro _ rfl
    have ht := h5.si (o := (8, 1)) (k := 16) (v := 550) rfl
    refine pl_forget (v := 550) false false false ht rfl (fg_s (by decide)) (fg_2 (by decide)) (fg_2 (by decide)) (fun M9 h9 => ?_)
    have hEE : ∀ cc : Int32, EE (fgM (mz_si (mz_si (mz_si (mz_si (mS m1 1 (spc (L1 13 1)) fr vd) (8, 1) 16 0) (8, 1) 12 tg) (8, 1) 13 pl) (8, 1) 16 550) 1 false false false) (lu L1 15 1 ss) ((mz_si (mz_si (mz_si (mz_si (nB m2 1 a) (30, 0) 32 (Int32.ofNat (spc (L2 43 1) + 1))) (30, 0) 33 tg) (30, 0) 34 pl) (30, 0) 35 cc)) L2 := fun cc => ⟨hE.1, ⟨s1, s2, s3, Or.inl ⟨o0, rfl⟩, rfl, s6, s7, Or.inl ⟨rfl, rfl⟩, ⟨rfl, Or.inl rfl⟩, ⟨rfl, 0, by decide, rfl⟩, s11, s12, s13, s14, s15, s16⟩, hE.2.2⟩
    refine finF_1 (m1 := m1) (m2 := m2) (v := 550) (a := a) (no := fun cc => (mz_si (mz_si (mz_si (mz_si (nB m2 1 a) (30, 0) 32 (Int32.ofNat (spc (L2 43 1) + 1))) (30, 0) 33 tg) (30, 0) 34 pl) (30, 0) 35 cc)) hEE ha (fun _ => ha) (fun _ => rfl) (by decide) (by decide) (by decide) (by decide) (fun _ => ⟨o0, rfl⟩) (fun _ => ⟨fun _ => rfl, rfl, rfl, rfl, rfl, rfl, rfl, rfl, rfl, rfl⟩) rfl h9 (fun M1' hr => hk M1' (fun M2 K2 h2 hk2 => rf M2 K2 h2 (fun _ cc M4 h4 => hr cc M4 K2 h4 hk2) (fun z => absurd qpl z) (fun z => absurd qpl z)))
  · have hpl1 : ¬ pl = -1 := by
      rw [epl]
      exact fun z => nneg hp.1 z.symm
    obtain ⟨qtg, hnm⟩ := hpn hpl1
    refine ⟨fun _ => pl_newName h5 ?_, fun z => absurd z hpl1⟩
    have els : lsI ((lu L1 15 1 ss) 15 1) = lsI ss := by rw [lu_same]
    rw [els]
    refine pl_make (m1 := m1) (m2 := m2) (L1 := L1) (L2 := L2) h5 hN (fun _ => rfl) (fun w => ?_) (fun n hn hn0 hth hfr M6 h6 => ?_)
    · rintro _ rfl
      have h7 := h5.si (o := (8, 1)) (k := 15) (v := -1) rfl
      refine ⟨fun z => absurd rfl z, fun _ => ?_⟩
      rintro _ rfl
      have ht := h7.si (o := (8, 1)) (k := 16) (v := 552) rfl
      refine pl_forget (v := 552) false false false ht rfl (fg_s (by decide)) (fg_2 (by decide)) (fg_2 (by decide)) (fun M9 h9 => ?_)
      have hEE : ∀ cc : Int32, EE (fgM (mz_si (mz_si (mz_si (mz_si (mz_si (mS m1 1 (spc (L1 13 1)) fr vd) (8, 1) 16 0) (8, 1) 12 tg) (8, 1) 13 pl) (8, 1) 15 (-1)) (8, 1) 16 552) 1 false false false) (lu L1 15 1 ss) ((mz_si (mz_si (mz_si (mz_si (nB m2 1 a) (30, 0) 32 (Int32.ofNat (spc (L2 43 1) + 1))) (30, 0) 33 tg) (30, 0) 34 pl) (30, 0) 35 cc)) L2 := fun cc => ⟨hE.1, ⟨s1, s2, s3, Or.inl ⟨o0, rfl⟩, rfl, s6, s7, Or.inl ⟨rfl, rfl⟩, ⟨rfl, Or.inl rfl⟩, ⟨rfl, 0, by decide, rfl⟩, s11, s12, s13, s14, s15, s16⟩, hE.2.2⟩
      refine finF_1 (m1 := m1) (m2 := m2) (v := 552) (a := a) (no := fun cc => (mz_si (mz_si (mz_si (mz_si (nB m2 1 a) (30, 0) 32 (Int32.ofNat (spc (L2 43 1) + 1))) (30, 0) 33 tg) (30, 0) 34 pl) (30, 0) 35 cc)) hEE ha (fun _ => ha) (fun _ => rfl) (by decide) (by decide) (by decide) (by decide) (fun _ => ⟨o0, rfl⟩) (fun _ => ⟨fun _ => rfl, rfl, rfl, rfl, rfl, rfl, rfl, rfl, rfl, rfl⟩) rfl h9 (fun M1' hr => hk M1' (fun M2 K2 h2 hk2 => rf M2 K2 h2 (fun z => absurd z hpl1) (fun _ _ cc M4 h4 => hr cc M4 K2 h4 hk2) (fun _ n hn z => absurd (w.symm.trans z) (nneg hn))))
    · rintro _ rfl
      have h7 := h6.si (o := (8, 1)) (k := 15) (v := Int32.ofNat n) rfl
      refine ⟨fun _ => ?_, fun z => absurd z.symm (nneg hn)⟩
      have hE1 : EE (mk1 m1 n 1 pl (lsI ss)) (lu L1 5 n []) (mk2 m2 n 0 pl (lsI ss) 1) (lu L2 38 n []) := by
        rw [epl]
        exact ee_mk hE hn hn0 hth hp hnm (Or.inr ⟨rfl, rfl⟩)
      have hb := mk2_n m2 n 0 pl (lsI ss) 1
      obtain ⟨s1, s2, s3, s4, s5, s6, s7, s8, s9, s10, s11, s12, s13, s14, s15, s16⟩ := hE1.2.1
      rintro _ rfl
      have ht := h7.si (o := (8, 1)) (k := 16) (v := 257) rfl
      refine pl_forget (v := 257) false false false ht rfl (fg_s (by decide)) (fg_2 (by decide)) (fg_2 (by decide)) (fun M9 h9 => ?_)
      have hEE : ∀ cc : Int32, EE (fgM (mz_si (mz_si (mk1 (mz_si (mz_si (mz_si (mS m1 1 (spc (L1 13 1)) fr vd) (8, 1) 16 0) (8, 1) 12 tg) (8, 1) 13 pl) n 1 pl (lsI ss)) (8, 1) 15 (Int32.ofNat n)) (8, 1) 16 257) 1 false false false) (lu (lu L1 15 1 ss) 5 n []) (mk2 (mz_si (mz_si (mz_si (mz_si (nB m2 1 a) (30, 0) 32 (Int32.ofNat (spc (L2 43 1) + 1))) (30, 0) 33 tg) (30, 0) 34 pl) (30, 0) 35 cc) n 0 pl (lsI ss) 1) (lu L2 38 n []) := fun cc => ⟨hE1.1, ⟨s1, s2, s3, Or.inl ⟨o0, rfl⟩, rfl, s6, s7, Or.inl ⟨rfl, rfl⟩, ⟨rfl, Or.inl rfl⟩, ⟨rfl, 0, by decide, rfl⟩, s11, s12, s13, s14, s15, s16⟩, hE1.2.2⟩
      refine fin257_1 (m1 := m1) (m2 := m2) (a := a) (n := n) (no := fun cc => mk2 (mz_si (mz_si (mz_si (mz_si (nB m2 1 a) (30, 0) 32 (Int32.ofNat (spc (L2 43 1) + 1))) (30, 0) 33 tg) (30, 0) 34 pl) (30, 0) 35 cc) n 0 pl (lsI ss) 1) (f32 := mz_i (mk2 m2 n 0 pl (lsI ss) 1) (32, 0)) (f34 := mz_i (mk2 m2 n 0 pl (lsI ss) 1) (34, 0)) (f35 := mz_i (mk2 m2 n 0 pl (lsI ss) 1) (35, 0)) hEE (fun _ _ => rfl) (fun _ _ => rfl) (fun _ _ => rfl) hn hb.1 ha (fun _ => ha) (fun _ => rfl) (fun _ => ⟨o0, rfl⟩) (fun _ => ⟨fun _ => rfl, rfl, rfl, rfl, rfl, rfl, rfl, rfl, rfl, rfl⟩) rfl rfl h9 (fun M1' hr => hk M1' (fun M2 K2 h2 hk2 => rf M2 K2 h2 (fun z => absurd z hpl1) (fun _ z => absurd (z.symm.trans hfr) (nneg hn)) (fun _ n' hn' hfr' cc M4 h4 => ?_)))
      have en := ofN_inj (by omega) (by omega) (hfr.symm.trans hfr')
      subst en
      exact hr cc M4 K2 h4 hk2
