/-- the reference's first question of a path's command -/
theorem mo_flag {y1 y2 tg : Int32} {M m m2 : MzM} {L : MzV} {K : MzM → Prop} (h : A2 M m L) (e33 : mz_i m (30, 0) 33 = tg) (e32' : mz_i m (32, 0) = mz_i m2 (32, 0)) (e33' : mz_i m (33, 0) = mz_i m2 (33, 0)) (hf : ∀ n : Nat, n < 16 → (mz_i m2 (33, 0) n = 0 ∨ mz_i m2 (33, 0) n = 1)) (hx : exI m2 tg) (h1 : drB m2 tg = true → wp_Mo_doPath_24 K y1 y2 1 M) (h0 : drB m2 tg = false → wp_Mo_doPath_24 K y1 y2 0 M) : wp_Mo_doPath y1 y2 M K := by
  have f33 := (h.1 30 33 rfl).trans e33
  unfold wp_Mo_doPath
  rw [f33]
  rcases hx with rfl | ⟨n, hn, hth, rfl⟩
  · exact ⟨fun _ => h0 (drB_neg m2), fun z => absurd (by decide) z⟩
  · have tn : (Int32.ofNat n).toInt = (n : Int) := itn (by omega)
    have fn : mz_i M (33, 0) n = mz_i m2 (33, 0) n := (h.1 33 n rfl).trans (by rw [e33'])
    refine ⟨fun z => absurd ((ilt (n := 0) tn rfl).mp z) (by omega), fun _ => ⟨n, tn, hn, ?_⟩⟩
    rw [fn]
    refine ⟨fun z => h0 ?_, fun z => h1 (drB_iff.mpr ⟨n, ⟨hn, hth, z⟩, rfl⟩)⟩
    rw [Bool.eq_false_iff]
    intro w
    obtain ⟨n', hn', e'⟩ := drB_iff.mp w
    have en := ofN_inj (by omega) (by have := hn'.1; omega) e'
    rw [← en] at hn'
    exact z hn'.2.2
/-- as fin5, where one place of the reference does not matter -/
theorem finF_0 {m1 m2 mo M1 : MzM} {no : Int32 → MzM} {LO L2O : MzV} {v a : Int32} {K : MzM → Prop} (hE : ∀ cc, EE mo LO (no cc) L2O) (ha : a.toInt = ((0 : Nat) : Int)) (hs : ∀ cc, (mz_i (no cc) (30, 0) 29).toInt = ((0 : Nat) : Int)) (hf : ∀ cc, mz_i (no cc) (30, 0) 30 = 0) (h213 : ¬ v = 213) (h257 : ¬ v = 257) (h426 : (¬ v = 426 ∧ ¬ v ≤ 0)) (hdg : dg v = dgo v) (ho : ∀ cc, mz_i (no cc) (39, 0) 0 = 0 ∧ mz_i (no cc) (40, 0) 0 = 0) (hcp : ∀ cc, cpF m1 m2 mo (no cc)) (hv : mz_i mo (8, 0) 16 = v) (h1 : A1 M1 mo LO) (hk : ∀ M1', (∀ (cc : Int32) (M2 : MzM) (K2 : MzM → Prop), A2 M2 (no cc) L2O → (∀ M2', OL m1 m2 0 M1' M2' → K2 M2') → wp_Mo_answer v M2 (clrK a K2)) → K M1') : tlA 0 K M1 := by
  refine pl_tail5 h1 hv h213 h257 h426.1 (nsp_0 (hE 0)) (fun M1' ds h1' => hk M1' (fun cc M2 K2 h2 hk2 => ?_))
  refine mo_answer h2 (hs cc) (by decide) (fun M3 h3 => mo_clr h3 ha (by decide) (fun M4 h4 => hk2 M4 ?_))
  have hq : L2O 45 0 = LO 9 0 := ((hE cc).1).2.1.symm
  rw [hq, ← hdg] at h4
  refine ⟨_, _, _, _, h1', h4, ee_line_0 (hE cc) ds _ _, hcp cc, ho cc, ⟨?_, posv hv h426.2⟩, fun z => absurd (hv.symm.trans z) h213⟩
  show mz_i mo (8, 0) 16 = fa (no cc) v
  rw [hv, fa_0 (hf cc)]
theorem ob_0_6 : obPred 0 6 := by
  intro m1 m2 M L1 L2 fr vd a ss K hE o0 ha hfit hW hD hA hfr hss h hk
  obtain ⟨s1, s2, s3, s4, s5, s6, s7, s8, s9, s10, s11, s12, s13, s14, s15, s16⟩ := hE.1
  have hcl := spc_le (L1 13 0)
  have h30 : (L1 13 0).length ≤ 30 := (h.line 0).2.1
  have sl : spc (L2 43 0) = spc (L1 13 0) := by rw [s3]
  have hu : ¬ mz_i m1 (8, 0) 7 = 0 := hW.elim (fun z => absurd z (by decide)) id
  have hp : pth (L1 13 0) (spc (L1 13 0) + 1) = some ss := hss ((hz5 hfit).2.2 rfl)
  have hN := hE.2.2.1
  have hr0 := hE.2.2.2.2.1
  have hw0 : ¬ mz_i m2 (46, 0) 0 = 0 := by
    rcases s7 with ⟨p, q⟩ | ⟨p, q⟩ | ⟨p, q⟩
    · exact absurd q hu
    · rw [p]; decide
    · rw [p]; decide
  obtain ⟨tg, pl, htg, hpl, hpn, hcls, href⟩ := path_0 hE ha hu hfr hp h
  refine ⟨fun _ => hcls _ (fun M5 h5 => ⟨6, rfl, by decide, fun _ => ?_, fun z => absurd z (by decide), fun z => absurd z (by decide), fun z => absurd z (by decide), fun z => absurd z (by decide), fun z => absurd z (by decide), fun z => absurd z (by decide), fun z => absurd z (by decide), fun z => absurd z (by decide), fun z => absurd z (by decide), fun n12 n13 n14 n15 n16 n17 n18 n19 n20 n21 => absurd rfl n12⟩), fun z => absurd rfl z⟩
  have e12 : mz_i M5 (8, 0) 12 = tg := h5.1 (8, 0) 12 rfl
  have tx : (mz_i M5 (8, 0) 0).toInt = ((0 : Nat) : Int) := by
    rw [h5.1 (8, 0) 0 rfl, show mz_i (mz_si (mz_si (mz_si (mS m1 0 (spc (L1 13 0)) fr vd) (8, 0) 16 0) (8, 0) 12 tg) (8, 0) 13 pl) (8, 0) 0 = Int32.ofNat 0 from s1]
    rfl
  -- the reference, as far as its answer
  have rf : ∀ (M2 : MzM) (K2 : MzM → Prop), A2 M2 (mz_si (nB m2 0 a) (30, 0) 32 (Int32.ofNat (spc (L2 43 0) + 1))) L2 → (drB m2 tg = true → ∀ cc M4, A2 M4 (mz_si (mz_si (mz_si (mz_si (mz_si (nB m2 0 a) (30, 0) 32 (Int32.ofNat (spc (L2 43 0) + 1))) (30, 0) 33 tg) (30, 0) 34 pl) (30, 0) 35 cc) (50, 0) 0 tg) L2 → wp_Mo_answer 250 M4 (clrK a K2)) → (drB m2 tg = false → ∀ cc M4, A2 M4 (mz_si (mz_si (mz_si (mz_si (mz_si (nB m2 0 a) (30, 0) 32 (Int32.ofNat (spc (L2 43 0) + 1))) (30, 0) 33 tg) (30, 0) 34 pl) (30, 0) 35 cc) (50, 0) 0 (mz_i m2 (50, 0) 0)) L2 → wp_Mo_answer 550 M4 (clrK a K2)) → wp_Mo_doLine_255 (clrK a K2) (mz_i m2 (47, 0) 0) (mz_i m2 (48, 0) 0) (mz_i m2 (49, 0) 0) (Int32.ofNat (6 + 1)) (eaI 6) M2 := by
    intro M2 K2 h2 k1 k0
    refine ⟨fun _ => mo_pc (fun _ => ⟨fun z => absurd z (by decide), fun _ => href M2 _ h2 (fun M3 cc h3 _ => ⟨fun _ => ?_, fun z => absurd (by decide) z⟩)⟩) (fun z => absurd z (by decide)), fun z => absurd z (by decide)⟩
    have s3' : (mz_i M3 (30, 0) 29).toInt = ((0 : Nat) : Int) := by rw [h3.1 30 29 rfl]; exact ha
    have e33 : mz_i M3 (30, 0) 33 = tg := h3.1 30 33 rfl
    have e50 : mz_i M3 (50, 0) 0 = mz_i m2 (50, 0) 0 := h3.1 50 0 rfl
    refine mo_flag (m2 := m2) h3 rfl rfl rfl (fun n hn => (hN n hn).2.1) htg (fun hd => mo_freeNode h3 ?_) (fun hd => mo_freeNode h3 ?_)
    · refine ⟨fun _ => ⟨fun z => absurd z (by decide), fun _ => ?_⟩, fun z => absurd z (by decide), fun z => absurd z (by decide), fun z => absurd z (by decide), fun z => absurd z (by decide), fun z => absurd z (by decide), fun n7 n9 n17 n18 n19 n20 => absurd rfl n7⟩
      rw [e33]
      refine ⟨0, s3', by decide, ?_⟩
      rintro _ rfl
      exact ⟨fun z => absurd z (by decide), fun _ => k1 hd cc _ (h3.si (t := 50) (k := 0) (v := tg) rfl)⟩
    · refine ⟨fun _ => ⟨fun _ => ⟨0, s3', by decide, ?_⟩, fun z => absurd rfl z⟩, fun z => absurd z (by decide), fun z => absurd z (by decide), fun z => absurd z (by decide), fun z => absurd z (by decide), fun z => absurd z (by decide), fun n7 n9 n17 n18 n19 n20 => absurd rfl n7⟩
      rw [e50]
      refine ⟨0, s3', by decide, ?_⟩
      rintro _ rfl
      exact ⟨fun _ => k0 hd cc _ (h3.si (t := 50) (k := 0) rfl), fun z => absurd rfl z⟩
  unfold wp_Ses_changeDirectory
  rw [e12]
  refine pl_isDirectory (m2 := m2) (L1 := L1) (L2 := L2) h5 (fun n hn => hN n hn) (fun hd => ⟨fun _ => ⟨0, tx, by decide, ?_⟩, fun z => absurd z (by decide)⟩) (fun hd => ⟨fun z => absurd rfl z, fun _ => ?_⟩)
  · rw [e12]
    rintro _ rfl
    obtain ⟨n, hn, etg⟩ := drB_iff.mp hd
    have h6 := h5.si (o := (6, 0)) (k := 0) (v := tg) rfl
    rintro _ rfl
    have ht := h6.si (o := (8, 0)) (k := 16) (v := 250) rfl
    refine pl_forget (v := 250) false false false ht rfl (fg_s (by decide)) (fg_2 (by decide)) (fg_2 (by decide)) (fun M9 h9 => ?_)
    have hEE : ∀ cc : Int32, EE (fgM (mz_si (mz_si (mz_si (mz_si (mz_si (mS m1 0 (spc (L1 13 0)) fr vd) (8, 0) 16 0) (8, 0) 12 tg) (8, 0) 13 pl) (6, 0) 0 tg) (8, 0) 16 250) 0 false false false) (lu L1 15 0 ss) (mz_si (mz_si (mz_si (mz_si (mz_si (nB m2 0 a) (30, 0) 32 (Int32.ofNat (spc (L2 43 0) + 1))) (30, 0) 33 tg) (30, 0) 34 pl) (30, 0) 35 cc) (50, 0) 0 tg) L2 := fun cc => ⟨⟨s1, s2, s3, Or.inl ⟨o0, rfl⟩, rfl, s6, s7, Or.inl ⟨rfl, rfl⟩, ⟨rfl, Or.inl rfl⟩, ⟨rfl, 0, by decide, rfl⟩, ⟨rfl, Or.inr ⟨hw0, n, hn, etg⟩⟩, s12, s13, s14, s15, s16⟩, hE.2.1, hE.2.2⟩
    refine finF_0 (m1 := m1) (m2 := m2) (v := 250) (a := a) (no := fun cc => mz_si (mz_si (mz_si (mz_si (mz_si (nB m2 0 a) (30, 0) 32 (Int32.ofNat (spc (L2 43 0) + 1))) (30, 0) 33 tg) (30, 0) 34 pl) (30, 0) 35 cc) (50, 0) 0 tg) hEE ha (fun _ => ha) (fun _ => rfl) (by decide) (by decide) (by decide) (by decide) (fun _ => ⟨o0, rfl⟩) (fun _ => ⟨fun _ => rfl, rfl, rfl, rfl, rfl, rfl, rfl, rfl, rfl, rfl⟩) rfl h9 (fun M1' hr => hk M1' (fun M2 K2 h2 hk2 => rf M2 K2 h2 (fun _ cc M4 h4 => hr cc M4 K2 h4 hk2) (fun w => absurd (hd.symm.trans w) (by decide))))
  · skip
    rintro _ rfl
    have ht := h5.si (o := (8, 0)) (k := 16) (v := 550) rfl
    refine pl_forget (v := 550) false false false ht rfl (fg_s (by decide)) (fg_2 (by decide)) (fg_2 (by decide)) (fun M9 h9 => ?_)
    have hEE : ∀ cc : Int32, EE (fgM (mz_si (mz_si (mz_si (mz_si (mS m1 0 (spc (L1 13 0)) fr vd) (8, 0) 16 0) (8, 0) 12 tg) (8, 0) 13 pl) (8, 0) 16 550) 0 false false false) (lu L1 15 0 ss) (mz_si (mz_si (mz_si (mz_si (mz_si (nB m2 0 a) (30, 0) 32 (Int32.ofNat (spc (L2 43 0) + 1))) (30, 0) 33 tg) (30, 0) 34 pl) (30, 0) 35 cc) (50, 0) 0 (mz_i m2 (50, 0) 0)) L2 := fun cc => ⟨⟨s1, s2, s3, Or.inl ⟨o0, rfl⟩, rfl, s6, s7, Or.inl ⟨rfl, rfl⟩, ⟨rfl, Or.inl rfl⟩, ⟨rfl, 0, by decide, rfl⟩, s11, s12, s13, s14, s15, s16⟩, hE.2.1, hE.2.2⟩
    refine finF_0 (m1 := m1) (m2 := m2) (v := 550) (a := a) (no := fun cc => mz_si (mz_si (mz_si (mz_si (mz_si (nB m2 0 a) (30, 0) 32 (Int32.ofNat (spc (L2 43 0) + 1))) (30, 0) 33 tg) (30, 0) 34 pl) (30, 0) 35 cc) (50, 0) 0 (mz_i m2 (50, 0) 0)) hEE ha (fun _ => ha) (fun _ => rfl) (by decide) (by decide) (by decide) (by decide) (fun _ => ⟨o0, rfl⟩) (fun _ => ⟨fun _ => rfl, rfl, rfl, rfl, rfl, rfl, rfl, rfl, rfl, rfl⟩) rfl h9 (fun M1' hr => hk M1' (fun M2 K2 h2 hk2 => rf M2 K2 h2 (fun w => absurd (hd.symm.trans w) (by decide)) (fun _ cc M4 h4 => hr cc M4 K2 h4 hk2)))
theorem ob_0_19 : obPred 0 19 := by
  intro m1 m2 M L1 L2 fr vd a ss K hE o0 ha hfit hW hD hA hfr hss h hk
  obtain ⟨s1, s2, s3, s4, s5, s6, s7, s8, s9, s10, s11, s12, s13, s14, s15, s16⟩ := hE.1
  have hcl := spc_le (L1 13 0)
  have h30 : (L1 13 0).length ≤ 30 := (h.line 0).2.1
  have sl : spc (L2 43 0) = spc (L1 13 0) := by rw [s3]
  have hu : ¬ mz_i m1 (8, 0) 7 = 0 := hW.elim (fun z => absurd z (by decide)) id
  have hp : pth (L1 13 0) (spc (L1 13 0) + 1) = some ss := hss ((hz5 hfit).2.2 rfl)
  have hN := hE.2.2.1
  have hr0 := hE.2.2.2.2.1
  have hw0 : ¬ mz_i m2 (46, 0) 0 = 0 := by
    rcases s7 with ⟨p, q⟩ | ⟨p, q⟩ | ⟨p, q⟩
    · exact absurd q hu
    · rw [p]; decide
    · rw [p]; decide
  obtain ⟨tg, pl, htg, hpl, hpn, hcls, href⟩ := path_0 hE ha hu hfr hp h
  refine ⟨fun _ => hcls _ (fun M5 h5 => ⟨19, rfl, by decide, fun z => absurd z (by decide), fun z => absurd z (by decide), fun z => absurd z (by decide), fun z => absurd z (by decide), fun z => absurd z (by decide), fun z => absurd z (by decide), fun z => absurd z (by decide), fun z => absurd z (by decide), fun _ => ?_, fun z => absurd z (by decide), fun n12 n13 n14 n15 n16 n17 n18 n19 n20 n21 => absurd rfl n20⟩), fun z => absurd rfl z⟩
  have e12 : mz_i M5 (8, 0) 12 = tg := h5.1 (8, 0) 12 rfl
  have rf : ∀ (M2 : MzM) (K2 : MzM → Prop), A2 M2 (mz_si (nB m2 0 a) (30, 0) 32 (Int32.ofNat (spc (L2 43 0) + 1))) L2 → (¬ tg ≤ 0 → ∀ cc M4, A2 M4 (mz_si (mz_si (mz_si (mz_si (mz_si (nB m2 0 a) (30, 0) 32 (Int32.ofNat (spc (L2 43 0) + 1))) (30, 0) 33 tg) (30, 0) 34 pl) (30, 0) 35 cc) (48, 0) 0 tg) L2 → wp_Mo_answer 350 M4 (clrK a K2)) → (tg ≤ 0 → ∀ cc M4, A2 M4 (mz_si (mz_si (mz_si (mz_si (mz_si (nB m2 0 a) (30, 0) 32 (Int32.ofNat (spc (L2 43 0) + 1))) (30, 0) 33 tg) (30, 0) 34 pl) (30, 0) 35 cc) (48, 0) 0 (-1)) L2 → wp_Mo_answer 550 M4 (clrK a K2)) → wp_Mo_doLine_255 (clrK a K2) (mz_i m2 (47, 0) 0) (mz_i m2 (48, 0) 0) (mz_i m2 (49, 0) 0) (Int32.ofNat (19 + 1)) (eaI 19) M2 := by
    intro M2 K2 h2 k1 k0
    refine ⟨fun _ => mo_pc (fun _ => ⟨fun z => absurd z (by decide), fun _ => href M2 _ h2 (fun M3 cc h3 _ => ⟨fun z => absurd z (by decide), fun _ => ⟨fun _ => ?_, fun z => absurd (by decide) z⟩⟩)⟩) (fun z => absurd z (by decide)), fun z => absurd z (by decide)⟩
    have s3' : (mz_i M3 (30, 0) 29).toInt = ((0 : Nat) : Int) := by rw [h3.1 30 29 rfl]; exact ha
    have e33 : mz_i M3 (30, 0) 33 = tg := h3.1 30 33 rfl
    have go : ∀ ys0 : Int32, wp_Mo_doPath_24 (clrK a K2) (Int32.ofNat (19 + 1)) (mz_i m2 (48, 0) 0) ys0 M3 := by
      intro ys0
      refine mo_freeNode h3 ?_
      refine ⟨fun z => absurd z (by decide), fun z => absurd z (by decide), fun z => absurd z (by decide), fun z => absurd z (by decide), fun z => absurd z (by decide), fun _ => ?_, fun n7 n9 n17 n18 n19 n20 => absurd rfl n20⟩
      rw [e33]
      refine ⟨fun z => ⟨0, s3', by decide, ?_⟩, fun z => ⟨0, s3', by decide, ?_⟩⟩
      · rintro _ rfl
        have e33' : mz_i (mz_si M3 (48, 0) 0 (-1)) (30, 0) 33 = tg := e33
        rw [e33']
        exact ⟨fun _ => k0 z cc _ (h3.si (t := 48) (k := 0) (v := -1) rfl), fun w => absurd z w⟩
      · rintro _ rfl
        have e33' : mz_i (mz_si M3 (48, 0) 0 tg) (30, 0) 33 = tg := e33
        rw [e33']
        exact ⟨fun w => absurd w z, fun _ => k1 z cc _ (h3.si (t := 48) (k := 0) (v := tg) rfl)⟩
    exact mo_flag (m2 := m2) h3 rfl rfl rfl (fun n hn => (hN n hn).2.1) htg (fun _ => go 1) (fun _ => go 0)
  unfold wp_Ses_chooseForRename
  rw [e12]
  have bad : tg ≤ 0 → ∀ M201 : MzM, M201 = mz_si M5 (8, 0) 16 550 → tl 0 19 K M201 := by
    intro hz
    rintro _ rfl
    have ht := h5.si (o := (8, 0)) (k := 16) (v := 550) rfl
    refine pl_forget (v := 550) false false false ht rfl (fg_s (by decide)) (fg_2 (by decide)) (fg_2 (by decide)) (fun M9 h9 => ?_)
    have hEE : ∀ cc : Int32, EE (fgM (mz_si (mz_si (mz_si (mz_si (mS m1 0 (spc (L1 13 0)) fr vd) (8, 0) 16 0) (8, 0) 12 tg) (8, 0) 13 pl) (8, 0) 16 550) 0 false false false) (lu L1 15 0 ss) (mz_si (mz_si (mz_si (mz_si (mz_si (nB m2 0 a) (30, 0) 32 (Int32.ofNat (spc (L2 43 0) + 1))) (30, 0) 33 tg) (30, 0) 34 pl) (30, 0) 35 cc) (48, 0) 0 (-1)) L2 := fun cc => ⟨⟨s1, s2, s3, Or.inl ⟨o0, rfl⟩, rfl, s6, s7, Or.inl ⟨rfl, rfl⟩, ⟨rfl, Or.inl rfl⟩, ⟨rfl, 0, by decide, rfl⟩, s11, s12, s13, s14, s15, s16⟩, hE.2.1, hE.2.2⟩
    refine finF_0 (m1 := m1) (m2 := m2) (v := 550) (a := a) (no := fun cc => mz_si (mz_si (mz_si (mz_si (mz_si (nB m2 0 a) (30, 0) 32 (Int32.ofNat (spc (L2 43 0) + 1))) (30, 0) 33 tg) (30, 0) 34 pl) (30, 0) 35 cc) (48, 0) 0 (-1)) hEE ha (fun _ => ha) (fun _ => rfl) (by decide) (by decide) (by decide) (by decide) (fun _ => ⟨o0, rfl⟩) (fun _ => ⟨fun _ => rfl, rfl, rfl, rfl, rfl, rfl, rfl, rfl, rfl, rfl⟩) rfl h9 (fun M1' hr => hk M1' (fun M2 K2 h2 hk2 => rf M2 K2 h2 (fun w => absurd hz w) (fun _ cc M4 h4 => hr cc M4 K2 h4 hk2)))
  refine ⟨fun z => bad (by rw [z]; decide), fun z => ⟨fun z2 => ?_, fun z2 => bad (by rw [z2]; decide)⟩⟩
  rintro _ rfl
  obtain ⟨n, hn, hth, etg⟩ : ∃ n : Nat, n < 16 ∧ mz_i m2 (32, 0) n = 1 ∧ tg = Int32.ofNat n := htg.elim (fun w => absurd w z) id
  have hn0 : 0 < n := by
    apply Nat.pos_of_ne_zero
    rintro rfl
    exact z2 etg
  have hpos : ¬ tg ≤ 0 := by
    rw [etg, ile (n := 0) (itn (n := n) (by omega)) rfl]
    omega
  have h6 := h5.si (o := (8, 0)) (k := 10) (v := tg) rfl
  rintro _ rfl
  have ht := h6.si (o := (8, 0)) (k := 16) (v := 350) rfl
  refine pl_forget (v := 350) false true false ht rfl (fg_s (by decide)) (⟨fun _ => ⟨rfl, rfl⟩, fun _ => rfl⟩) (fg_2 (by decide)) (fun M9 h9 => ?_)
  have hEE : ∀ cc : Int32, EE (fgM (mz_si (mz_si (mz_si (mz_si (mz_si (mS m1 0 (spc (L1 13 0)) fr vd) (8, 0) 16 0) (8, 0) 12 tg) (8, 0) 13 pl) (8, 0) 10 tg) (8, 0) 16 350) 0 false true false) (lu L1 15 0 ss) (mz_si (mz_si (mz_si (mz_si (mz_si (nB m2 0 a) (30, 0) 32 (Int32.ofNat (spc (L2 43 0) + 1))) (30, 0) 33 tg) (30, 0) 34 pl) (30, 0) 35 cc) (48, 0) 0 tg) L2 := fun cc => ⟨⟨s1, s2, s3, Or.inl ⟨o0, rfl⟩, rfl, s6, s7, Or.inl ⟨rfl, rfl⟩, ⟨rfl, Or.inr ⟨n, hn0, hn, etg⟩⟩, ⟨rfl, 0, by decide, rfl⟩, s11, s12, s13, s14, s15, s16⟩, hE.2.1, hE.2.2⟩
  refine finF_0 (m1 := m1) (m2 := m2) (v := 350) (a := a) (no := fun cc => mz_si (mz_si (mz_si (mz_si (mz_si (nB m2 0 a) (30, 0) 32 (Int32.ofNat (spc (L2 43 0) + 1))) (30, 0) 33 tg) (30, 0) 34 pl) (30, 0) 35 cc) (48, 0) 0 tg) hEE ha (fun _ => ha) (fun _ => rfl) (by decide) (by decide) (by decide) (by decide) (fun _ => ⟨o0, rfl⟩) (fun _ => ⟨fun _ => rfl, rfl, rfl, rfl, rfl, rfl, rfl, rfl, rfl, rfl⟩) rfl h9 (fun M1' hr => hk M1' (fun M2 K2 h2 hk2 => rf M2 K2 h2 (fun _ cc M4 h4 => hr cc M4 K2 h4 hk2) (fun w => absurd w hpos)))
/-- as fin5, where one place of the reference does not matter -/
theorem finF_1 {m1 m2 mo M1 : MzM} {no : Int32 → MzM} {LO L2O : MzV} {v a : Int32} {K : MzM → Prop} (hE : ∀ cc, EE mo LO (no cc) L2O) (ha : a.toInt = ((1 : Nat) : Int)) (hs : ∀ cc, (mz_i (no cc) (30, 0) 29).toInt = ((1 : Nat) : Int)) (hf : ∀ cc, mz_i (no cc) (30, 0) 30 = 0) (h213 : ¬ v = 213) (h257 : ¬ v = 257) (h426 : (¬ v = 426 ∧ ¬ v ≤ 0)) (hdg : dg v = dgo v) (ho : ∀ cc, mz_i (no cc) (39, 0) 1 = 0 ∧ mz_i (no cc) (40, 0) 1 = 0) (hcp : ∀ cc, cpF m1 m2 mo (no cc)) (hv : mz_i mo (8, 1) 16 = v) (h1 : A1 M1 mo LO) (hk : ∀ M1', (∀ (cc : Int32) (M2 : MzM) (K2 : MzM → Prop), A2 M2 (no cc) L2O → (∀ M2', OL m1 m2 1 M1' M2' → K2 M2') → wp_Mo_answer v M2 (clrK a K2)) → K M1') : tlA 1 K M1 := by
  refine pl_tail5 h1 hv h213 h257 h426.1 (nsp_1 (hE 0)) (fun M1' ds h1' => hk M1' (fun cc M2 K2 h2 hk2 => ?_))
  refine mo_answer h2 (hs cc) (by decide) (fun M3 h3 => mo_clr h3 ha (by decide) (fun M4 h4 => hk2 M4 ?_))
  have hq : L2O 45 1 = LO 9 1 := ((hE cc).2.1).2.1.symm
  rw [hq, ← hdg] at h4
  refine ⟨_, _, _, _, h1', h4, ee_line_1 (hE cc) ds _ _, hcp cc, ho cc, ⟨?_, posv hv h426.2⟩, fun z => absurd (hv.symm.trans z) h213⟩
  show mz_i mo (8, 1) 16 = fa (no cc) v
  rw [hv, fa_0 (hf cc)]
theorem ob_1_6 : obPred 1 6 := by
  intro m1 m2 M L1 L2 fr vd a ss K hE o0 ha hfit hW hD hA hfr hss h hk
  obtain ⟨s1, s2, s3, s4, s5, s6, s7, s8, s9, s10, s11, s12, s13, s14, s15, s16⟩ := hE.2.1
  have hcl := spc_le (L1 13 1)
  have h30 : (L1 13 1).length ≤ 30 := (h.line 1).2.1
  have sl : spc (L2 43 1) = spc (L1 13 1) := by rw [s3]
  have hu : ¬ mz_i m1 (8, 1) 7 = 0 := hW.elim (fun z => absurd z (by decide)) id
  have hp : pth (L1 13 1) (spc (L1 13 1) + 1) = some ss := hss ((hz5 hfit).2.2 rfl)
  have hN := hE.2.2.1
  have hr0 := hE.2.2.2.2.1
  have hw0 : ¬ mz_i m2 (46, 0) 1 = 0 := by
    rcases s7 with ⟨p, q⟩ | ⟨p, q⟩ | ⟨p, q⟩
    · exact absurd q hu
    · rw [p]; decide
    · rw [p]; decide
  obtain ⟨tg, pl, htg, hpl, hpn, hcls, href⟩ := path_1 hE ha hu hfr hp h
  refine ⟨fun _ => hcls _ (fun M5 h5 => ⟨6, rfl, by decide, fun _ => ?_, fun z => absurd z (by decide), fun z => absurd z (by decide), fun z => absurd z (by decide), fun z => absurd z (by decide), fun z => absurd z (by decide), fun z => absurd z (by decide), fun z => absurd z (by decide), fun z => absurd z (by decide), fun z => absurd z (by decide), fun n12 n13 n14 n15 n16 n17 n18 n19 n20 n21 => absurd rfl n12⟩), fun z => absurd rfl z⟩
  have e12 : mz_i M5 (8, 1) 12 = tg := h5.1 (8, 1) 12 rfl
  have tx : (mz_i M5 (8, 1) 0).toInt = ((1 : Nat) : Int) := by
    rw [h5.1 (8, 1) 0 rfl, show mz_i (mz_si (mz_si (mz_si (mS m1 1 (spc (L1 13 1)) fr vd) (8, 1) 16 0) (8, 1) 12 tg) (8, 1) 13 pl) (8, 1) 0 = Int32.ofNat 1 from s1]
    rfl
  -- the reference, as far as its answer
  have rf : ∀ (M2 : MzM) (K2 : MzM → Prop), A2 M2 (mz_si (nB m2 1 a) (30, 0) 32 (Int32.ofNat (spc (L2 43 1) + 1))) L2 → (drB m2 tg = true → ∀ cc M4, A2 M4 (mz_si (mz_si (mz_si (mz_si (mz_si (nB m2 1 a) (30, 0) 32 (Int32.ofNat (spc (L2 43 1) + 1))) (30, 0) 33 tg) (30, 0) 34 pl) (30, 0) 35 cc) (50, 0) 1 tg) L2 → wp_Mo_answer 250 M4 (clrK a K2)) → (drB m2 tg = false → ∀ cc M4, A2 M4 (mz_si (mz_si (mz_si (mz_si (mz_si (nB m2 1 a) (30, 0) 32 (Int32.ofNat (spc (L2 43 1) + 1))) (30, 0) 33 tg) (30, 0) 34 pl) (30, 0) 35 cc) (50, 0) 1 (mz_i m2 (50, 0) 1)) L2 → wp_Mo_answer 550 M4 (clrK a K2)) → wp_Mo_doLine_255 (clrK a K2) (mz_i m2 (47, 0) 1) (mz_i m2 (48, 0) 1) (mz_i m2 (49, 0) 1) (Int32.ofNat (6 + 1)) (eaI 6) M2 := by
    intro M2 K2 h2 k1 k0
    refine ⟨fun _ => mo_pc (fun _ => ⟨fun z => absurd z (by decide), fun _ => href M2 _ h2 (fun M3 cc h3 _ => ⟨fun _ => ?_, fun z => absurd (by decide) z⟩)⟩) (fun z => absurd z (by decide)), fun z => absurd z (by decide)⟩
    have s3' : (mz_i M3 (30, 0) 29).toInt = ((1 : Nat) : Int) := by rw [h3.1 30 29 rfl]; exact ha
    have e33 : mz_i M3 (30, 0) 33 = tg := h3.1 30 33 rfl
    have e50 : mz_i M3 (50, 0) 1 = mz_i m2 (50, 0) 1 := h3.1 50 1 rfl
    refine mo_flag (m2 := m2) h3 rfl rfl rfl (fun n hn => (hN n hn).2.1) htg (fun hd => mo_freeNode h3 ?_) (fun hd => mo_freeNode h3 ?_)
    · refine ⟨fun _ => ⟨fun z => absurd z (by decide), fun _ => ?_⟩, fun z => absurd z (by decide), fun z => absurd z (by decide), fun z => absurd z (by decide), fun z => absurd z (by decide), fun z => absurd z (by decide), fun n7 n9 n17 n18 n19 n20 => absurd rfl n7⟩
      rw [e33]
      refine ⟨1, s3', by decide, ?_⟩
      rintro _ rfl
      exact ⟨fun z => absurd z (by decide), fun _ => k1 hd cc _ (h3.si (t := 50) (k := 1) (v := tg) rfl)⟩
    · refine ⟨fun _ => ⟨fun _ => ⟨1, s3', by decide, ?_⟩, fun z => absurd rfl z⟩, fun z => absurd z (by decide), fun z => absurd z (by decide), fun z => absurd z (by decide), fun z => absurd z (by decide), fun z => absurd z (by decide), fun n7 n9 n17 n18 n19 n20 => absurd rfl n7⟩
      rw [e50]
      refine ⟨1, s3', by decide, ?_⟩
      rintro _ rfl
      exact ⟨fun _ => k0 hd cc _ (h3.si (t := 50) (k := 1) rfl), fun z => absurd rfl z⟩
  unfold wp_Ses_changeDirectory
  rw [e12]
  refine pl_isDirectory (m2 := m2) (L1 := L1) (L2 := L2) h5 (fun n hn => hN n hn) (fun hd => ⟨fun _ => ⟨1, tx, by decide, ?_⟩, fun z => absurd z (by decide)⟩) (fun hd => ⟨fun z => absurd rfl z, fun _ => ?_⟩)
  · rw [e12]
    rintro _ rfl
    obtain ⟨n, hn, etg⟩ := drB_iff.mp hd
    have h6 := h5.si (o := (6, 0)) (k := 1) (v := tg) rfl
    rintro _ rfl
    have ht := h6.si (o := (8, 1)) (k := 16) (v := 250) rfl
    refine pl_forget (v := 250) false false false ht rfl (fg_s (by decide)) (fg_2 (by decide)) (fg_2 (by decide)) (fun M9 h9 => ?_)
    have hEE : ∀ cc : Int32, EE (fgM (mz_si (mz_si (mz_si (mz_si (mz_si (mS m1 1 (spc (L1 13 1)) fr vd) (8, 1) 16 0) (8, 1) 12 tg) (8, 1) 13 pl) (6, 0) 1 tg) (8, 1) 16 250) 1 false false false) (lu L1 15 1 ss) (mz_si (mz_si (mz_si (mz_si (mz_si (nB m2 1 a) (30, 0) 32 (Int32.ofNat (spc (L2 43 1) + 1))) (30, 0) 33 tg) (30, 0) 34 pl) (30, 0) 35 cc) (50, 0) 1 tg) L2 := fun cc => ⟨hE.1, ⟨s1, s2, s3, Or.inl ⟨o0, rfl⟩, rfl, s6, s7, Or.inl ⟨rfl, rfl⟩, ⟨rfl, Or.inl rfl⟩, ⟨rfl, 0, by decide, rfl⟩, ⟨rfl, Or.inr ⟨hw0, n, hn, etg⟩⟩, s12, s13, s14, s15, s16⟩, hE.2.2⟩
    refine finF_1 (m1 := m1) (m2 := m2) (v := 250) (a := a) (no := fun cc => mz_si (mz_si (mz_si (mz_si (mz_si (nB m2 1 a) (30, 0) 32 (Int32.ofNat (spc (L2 43 1) + 1))) (30, 0) 33 tg) (30, 0) 34 pl) (30, 0) 35 cc) (50, 0) 1 tg) hEE ha (fun _ => ha) (fun _ => rfl) (by decide) (by decide) (by decide) (by decide) (fun _ => ⟨o0, rfl⟩) (fun _ => ⟨fun _ => rfl, rfl, rfl, rfl, rfl, rfl, rfl, rfl, rfl, rfl⟩) rfl h9 (fun M1' hr => hk M1' (fun M2 K2 h2 hk2 => rf M2 K2 h2 (fun _ cc M4 h4 => hr cc M4 K2 h4 hk2) (fun w => absurd (hd.symm.trans w) (by decide))))
  · skip
    rintro _ rfl
    have ht := h5.si (o := (8, 1)) (k := 16) (v := 550) rfl
    refine pl_forget (v := 550) false false false ht rfl (fg_s (by decide)) (fg_2 (by decide)) (fg_2 (by decide)) (fun M9 h9 => ?_)
    have hEE : ∀ cc : Int32, EE (fgM (mz_si (mz_si (mz_si (mz_si (mS m1 1 (spc (L1 13 1)) fr vd) (8, 1) 16 0) (8, 1) 12 tg) (8, 1) 13 pl) (8, 1) 16 550) 1 false false false) (lu L1 15 1 ss) (mz_si (mz_si (mz_si (mz_si (mz_si (nB m2 1 a) (30, 0) 32 (Int32.ofNat (spc (L2 43 1) + 1))) (30, 0) 33 tg) (30, 0) 34 pl) (30, 0) 35 cc) (50, 0) 1 (mz_i m2 (50, 0) 1)) L2 := fun cc => ⟨hE.1, ⟨s1, s2, s3, Or.inl ⟨o0, rfl⟩, rfl, s6, s7, Or.inl ⟨rfl, rfl⟩, ⟨rfl, Or.inl rfl⟩, ⟨rfl, 0, by decide, rfl⟩, s11, s12, s13, s14, s15, s16⟩, hE.2.2⟩
    refine finF_1 (m1 := m1) (m2 := m2) (v := 550) (a := a) (no := fun cc => mz_si (mz_si (mz_si (mz_si (mz_si (nB m2 1 a) (30, 0) 32 (Int32.ofNat (spc (L2 43 1) + 1))) (30, 0) 33 tg) (30, 0) 34 pl) (30, 0) 35 cc) (50, 0) 1 (mz_i m2 (50, 0) 1)) hEE ha (fun _ => ha) (fun _ => rfl) (by decide) (by decide) (by decide) (by decide) (fun _ => ⟨o0, rfl⟩) (fun _ => ⟨fun _ => rfl, rfl, rfl, rfl, rfl, rfl, rfl, rfl, rfl, rfl⟩) rfl h9 (fun M1' hr => hk M1' (fun M2 K2 h2 hk2 => rf M2 K2 h2 (fun w => absurd (hd.symm.trans w) (by decide)) (fun _ cc M4 h4 => hr cc M4 K2 h4 hk2)))
theorem ob_1_19 : obPred 1 19 := by
  intro m1 m2 M L1 L2 fr vd a ss K hE o0 ha hfit hW hD hA hfr hss h hk
  obtain ⟨s1, s2, s3, s4, s5, s6, s7, s8, s9, s10, s11, s12, s13, s14, s15, s16⟩ := hE.2.1
  have hcl := spc_le (L1 13 1)
  have h30 : (L1 13 1).length ≤ 30 := (h.line 1).2.1
  have sl : spc (L2 43 1) = spc (L1 13 1) := by rw [s3]
  have hu : ¬ mz_i m1 (8, 1) 7 = 0 := hW.elim (fun z => absurd z (by decide)) id
  have hp : pth (L1 13 1) (spc (L1 13 1) + 1) = some ss := hss ((hz5 hfit).2.2 rfl)
  have hN := hE.2.2.1
  have hr0 := hE.2.2.2.2.1
  have hw0 : ¬ mz_i m2 (46, 0) 1 = 0 := by
    rcases s7 with ⟨p, q⟩ | ⟨p, q⟩ | ⟨p, q⟩
    · exact absurd q hu
    · rw [p]; decide
    · rw [p]; decide
  obtain ⟨tg, pl, htg, hpl, hpn, hcls, href⟩ := path_1 hE ha hu hfr hp h
  refine ⟨fun _ => hcls _ (fun M5 h5 => ⟨19, rfl, by decide, fun z => absurd z (by decide), fun z => absurd z (by decide), fun z => absurd z (by decide), fun z => absurd z (by decide), fun z => absurd z (by decide), fun z => absurd z (by decide), fun z => absurd z (by decide), fun z => absurd z (by decide), fun _ => ?_, fun z => absurd z (by decide), fun n12 n13 n14 n15 n16 n17 n18 n19 n20 n21 => absurd rfl n20⟩), fun z => absurd rfl z⟩
  have e12 : mz_i M5 (8, 1) 12 = tg := h5.1 (8, 1) 12 rfl
  have rf : ∀ (M2 : MzM) (K2 : MzM → Prop), A2 M2 (mz_si (nB m2 1 a) (30, 0) 32 (Int32.ofNat (spc (L2 43 1) + 1))) L2 → (¬ tg ≤ 0 → ∀ cc M4, A2 M4 (mz_si (mz_si (mz_si (mz_si (mz_si (nB m2 1 a) (30, 0) 32 (Int32.ofNat (spc (L2 43 1) + 1))) (30, 0) 33 tg) (30, 0) 34 pl) (30, 0) 35 cc) (48, 0) 1 tg) L2 → wp_Mo_answer 350 M4 (clrK a K2)) → (tg ≤ 0 → ∀ cc M4, A2 M4 (mz_si (mz_si (mz_si (mz_si (mz_si (nB m2 1 a) (30, 0) 32 (Int32.ofNat (spc (L2 43 1) + 1))) (30, 0) 33 tg) (30, 0) 34 pl) (30, 0) 35 cc) (48, 0) 1 (-1)) L2 → wp_Mo_answer 550 M4 (clrK a K2)) → wp_Mo_doLine_255 (clrK a K2) (mz_i m2 (47, 0) 1) (mz_i m2 (48, 0) 1) (mz_i m2 (49, 0) 1) (Int32.ofNat (19 + 1)) (eaI 19) M2 := by
    intro M2 K2 h2 k1 k0
    refine ⟨fun _ => mo_pc (fun _ => ⟨fun z => absurd z (by decide), fun _ => href M2 _ h2 (fun M3 cc h3 _ => ⟨fun z => absurd z (by decide), fun _ => ⟨fun _ => ?_, fun z => absurd (by decide) z⟩⟩)⟩) (fun z => absurd z (by decide)), fun z => absurd z (by decide)⟩
    have s3' : (mz_i M3 (30, 0) 29).toInt = ((1 : Nat) : Int) := by rw [h3.1 30 29 rfl]; exact ha
    have e33 : mz_i M3 (30, 0) 33 = tg := h3.1 30 33 rfl
    have go : ∀ ys0 : Int32, wp_Mo_doPath_24 (clrK a K2) (Int32.ofNat (19 + 1)) (mz_i m2 (48, 0) 1) ys0 M3 := by
      intro ys0
      refine mo_freeNode h3 ?_
      refine ⟨fun z => absurd z (by decide), fun z => absurd z (by decide), fun z => absurd z (by decide), fun z => absurd z (by decide), fun z => absurd z (by decide), fun _ => ?_, fun n7 n9 n17 n18 n19 n20 => absurd rfl n20⟩
      rw [e33]
      refine ⟨fun z => ⟨1, s3', by decide, ?_⟩, fun z => ⟨1, s3', by decide, ?_⟩⟩
      · rintro _ rfl
        have e33' : mz_i (mz_si M3 (48, 0) 1 (-1)) (30, 0) 33 = tg := e33
        rw [e33']
        exact ⟨fun _ => k0 z cc _ (h3.si (t := 48) (k := 1) (v := -1) rfl), fun w => absurd z w⟩
      · rintro _ rfl
        have e33' : mz_i (mz_si M3 (48, 0) 1 tg) (30, 0) 33 = tg := e33
        rw [e33']
        exact ⟨fun w => absurd w z, fun _ => k1 z cc _ (h3.si (t := 48) (k := 1) (v := tg) rfl)⟩
    exact mo_flag (m2 := m2) h3 rfl rfl rfl (fun n hn => (hN n hn).2.1) htg (fun _ => go 1) (fun _ => go 0)
  unfold wp_Ses_chooseForRename
  rw [e12]
  have bad : tg ≤ 0 → ∀ M201 : MzM, M201 = mz_si M5 (8, 1) 16 550 → tl 1 19 K M201 := by
    intro hz
    rintro _ rfl
    have ht := h5.si (o := (8, 1)) (k := 16) (v := 550) rfl
    refine pl_forget (v := 550) false false false ht rfl (fg_s (by decide)) (fg_2 (by decide)) (fg_2 (by decide)) (fun M9 h9 => ?_)
    have hEE : ∀ cc : Int32, EE (fgM (mz_si (mz_si (mz_si (mz_si (mS m1 1 (spc (L1 13 1)) fr vd) (8, 1) 16 0) (8, 1) 12 tg) (8, 1) 13 pl) (8, 1) 16 550) 1 false false false) (lu L1 15 1 ss) (mz_si (mz_si (mz_si (mz_si (mz_si (nB m2 1 a) (30, 0) 32 (Int32.ofNat (spc (L2 43 1) + 1))) (30, 0) 33 tg) (30, 0) 34 pl) (30, 0) 35 cc) (48, 0) 1 (-1)) L2 := fun cc => ⟨hE.1, ⟨s1, s2, s3, Or.inl ⟨o0, rfl⟩, rfl, s6, s7, Or.inl ⟨rfl, rfl⟩, ⟨rfl, Or.inl rfl⟩, ⟨rfl, 0, by decide, rfl⟩, s11, s12, s13, s14, s15, s16⟩, hE.2.2⟩
    refine finF_1 (m1 := m1) (m2 := m2) (v := 550) (a := a) (no := fun cc => mz_si (mz_si (mz_si (mz_si (mz_si (nB m2 1 a) (30, 0) 32 (Int32.ofNat (spc (L2 43 1) + 1))) (30, 0) 33 tg) (30, 0) 34 pl) (30, 0) 35 cc) (48, 0) 1 (-1)) hEE ha (fun _ => ha) (fun _ => rfl) (by decide) (by decide) (by decide) (by decide) (fun _ => ⟨o0, rfl⟩) (fun _ => ⟨fun _ => rfl, rfl, rfl, rfl, rfl, rfl, rfl, rfl, rfl, rfl⟩) rfl h9 (fun M1' hr => hk M1' (fun M2 K2 h2 hk2 => rf M2 K2 h2 (fun w => absurd hz w) (fun _ cc M4 h4 => hr cc M4 K2 h4 hk2)))
  refine ⟨fun z => bad (by rw [z]; decide), fun z => ⟨fun z2 => ?_, fun z2 => bad (by rw [z2]; decide)⟩⟩
  rintro _ rfl
  obtain ⟨n, hn, hth, etg⟩ : ∃ n : Nat, n < 16 ∧ mz_i m2 (32, 0) n = 1 ∧ tg = Int32.ofNat n := htg.elim (fun w => absurd w z) id
  have hn0 : 0 < n := by
    apply Nat.pos_of_ne_zero
    rintro rfl
    exact z2 etg
  have hpos : ¬ tg ≤ 0 := by
    rw [etg, ile (n := 0) (itn (n := n) (by omega)) rfl]
    omega
  have h6 := h5.si (o := (8, 1)) (k := 10) (v := tg) rfl
  rintro _ rfl
  have ht := h6.si (o := (8, 1)) (k := 16) (v := 350) rfl
  refine pl_forget (v := 350) false true false ht rfl (fg_s (by decide)) (⟨fun _ => ⟨rfl, rfl⟩, fun _ => rfl⟩) (fg_2 (by decide)) (fun M9 h9 => ?_)
  have hEE : ∀ cc : Int32, EE (fgM (mz_si (mz_si (mz_si (mz_si (mz_si (mS m1 1 (spc (L1 13 1)) fr vd) (8, 1) 16 0) (8, 1) 12 tg) (8, 1) 13 pl) (8, 1) 10 tg) (8, 1) 16 350) 1 false true false) (lu L1 15 1 ss) (mz_si (mz_si (mz_si (mz_si (mz_si (nB m2 1 a) (30, 0) 32 (Int32.ofNat (spc (L2 43 1) + 1))) (30, 0) 33 tg) (30, 0) 34 pl) (30, 0) 35 cc) (48, 0) 1 tg) L2 := fun cc => ⟨hE.1, ⟨s1, s2, s3, Or.inl ⟨o0, rfl⟩, rfl, s6, s7, Or.inl ⟨rfl, rfl⟩, ⟨rfl, Or.inr ⟨n, hn0, hn, etg⟩⟩, ⟨rfl, 0, by decide, rfl⟩, s11, s12, s13, s14, s15, s16⟩, hE.2.2⟩
  refine finF_1 (m1 := m1) (m2 := m2) (v := 350) (a := a) (no := fun cc => mz_si (mz_si (mz_si (mz_si (mz_si (nB m2 1 a) (30, 0) 32 (Int32.ofNat (spc (L2 43 1) + 1))) (30, 0) 33 tg) (30, 0) 34 pl) (30, 0) 35 cc) (48, 0) 1 tg) hEE ha (fun _ => ha) (fun _ => rfl) (by decide) (by decide) (by decide) (by decide) (fun _ => ⟨o0, rfl⟩) (fun _ => ⟨fun _ => rfl, rfl, rfl, rfl, rfl, rfl, rfl, rfl, rfl, rfl⟩) rfl h9 (fun M1' hr => hk M1' (fun M2 K2 h2 hk2 => rf M2 K2 h2 (fun _ cc M4 h4 => hr cc M4 K2 h4 hk2) (fun w => absurd w hpos)))
