def dno (v : Int32) : List Int32 := if v ≤ 9 then [(48 : Int32) + (v - v / (10 : Int32) * (10 : Int32))] else [(48 : Int32) + (v / (10 : Int32)), (48 : Int32) + (v - v / (10 : Int32) * (10 : Int32))]
theorem dn_eq : ∀ k : Nat, k < 25 → dn (Int32.ofNat k) = dno (Int32.ofNat k) := by decide +kernel
theorem mo_replySize {x : Nat} {v : Int32} {M m : MzM} {L : MzV} {K : MzM → Prop} (h : A2 M m L) (hs : (mz_i m (30, 0) 29).toInt = (x : Int)) (hx : x < 2) (hk : ∀ M', A2 M' (mz_si (mz_si m (30, 0) 30 (fa m 213)) (30, 0) 31 v) (lu L 45 x (qap (L 45 x) (dgo 213 ++ [32] ++ dno v ++ [13] ++ [10]))) → K M') : wp_Mo_replySize v M K := by
  refine mo_answered h (fun M1 h1 => ?_)
  rintro _ rfl
  have h2 := h1.si (t := 30) (k := 31) (v := v) rfl
  have s0 : ∀ (M' : MzM) (L' : MzV), A2 M' (mz_si (mz_si m (30, 0) 30 (fa m 213)) (30, 0) 31 v) L' → (mz_i M' (30, 0) 29).toInt = (x : Int) := fun M' L' h' => by rw [h'.1 30 29 rfl]; exact hs
  have sm : (mz_i (mz_si (mz_si m (30, 0) 30 (fa m 213)) (30, 0) 31 v) (30, 0) 29).toInt = (x : Int) := hs
  have hid : ∀ N, A2 N (mz_si (mz_si m (30, 0) 30 (fa m 213)) (30, 0) 31 v) L → A2 N (mz_si (mz_si m (30, 0) 30 (fa m 213)) (30, 0) 31 v) (lu L 45 x (L 45 x)) := fun N hN => by rw [lu_id]; exact hN
  have full : ∀ (ds : List Int32), ¬ (L 45 x).length + ds.length ≤ 200 → dgo 213 ++ [32] ++ dno v ++ [13] ++ [10] = ds → ∀ N, A2 N (mz_si (mz_si m (30, 0) 30 (fa m 213)) (30, 0) 31 v) L → K N := by
    intro ds hl e N hN
    rw [e] at hk
    have eq : qap (L 45 x) ds = L 45 x := by unfold qap; rw [if_neg hl]
    rw [eq, lu_id] at hk
    exact hk N hN
  refine ⟨fun z => ?_, fun z => ?_⟩
  · have ed : dno v = [(48 : Int32) + (v - v / (10 : Int32) * (10 : Int32))] := if_pos z
    refine mo_hasRoom (n := 7) h2 (s0 _ _ h2) hx rfl (by decide) (fun hr => ⟨fun _ => ?_, fun h9 => absurd h9 (by decide)⟩) (fun hr => ⟨fun h9 => absurd rfl h9, fun _ => full _ ?_ rfl _ h2⟩)
    · have e : qap (L 45 x) (dgo 213 ++ [32] ++ dno v ++ [13] ++ [10]) = L 45 x ++ dgo 213 ++ [32] ++ [(48 : Int32) + (v - v / (10 : Int32) * (10 : Int32))] ++ [13] ++ [10] := by
        unfold qap
        rw [ed, if_pos (by simp only [List.length_append, List.length_singleton, dgo_len]; omega)]
        simp only [List.append_assoc]
      rw [e] at hk
      refine mo_putCode (hid _ h2) sm hx (by omega) (fun M3 h3 => mo_put' h3 (s0 _ _ h3) hx (by simp only [List.length_append, dgo_len]; omega) (fun M4 h4 => ⟨fun _ => mo_put' h4 (s0 _ _ h4) hx (by simp only [List.length_append, List.length_singleton, dgo_len]; omega) (fun M5 h5 => mo_putEnd h5 sm hx (by simp only [List.length_append, List.length_singleton, dgo_len]; omega) (fun M6 h6 => hk M6 h6)), fun w => absurd z w⟩))
    · rw [ed]
      simp only [List.length_append, List.length_singleton, dgo_len]
      omega
  · have ed : dno v = [(48 : Int32) + (v / (10 : Int32)), (48 : Int32) + (v - v / (10 : Int32) * (10 : Int32))] := if_neg z
    refine mo_hasRoom (n := 8) h2 (s0 _ _ h2) hx rfl (by decide) (fun hr => ⟨fun _ => ?_, fun h9 => absurd h9 (by decide)⟩) (fun hr => ⟨fun h9 => absurd rfl h9, fun _ => full _ ?_ rfl _ h2⟩)
    · have e : qap (L 45 x) (dgo 213 ++ [32] ++ dno v ++ [13] ++ [10]) = L 45 x ++ dgo 213 ++ [32] ++ [(48 : Int32) + (v / (10 : Int32))] ++ [(48 : Int32) + (v - v / (10 : Int32) * (10 : Int32))] ++ [13] ++ [10] := by
        unfold qap
        rw [ed, if_pos (by simp only [List.length_append, List.length_singleton, List.length_cons, List.length_nil, dgo_len]; omega)]
        simp only [List.append_assoc, List.cons_append, List.nil_append]
      rw [e] at hk
      refine mo_putCode (hid _ h2) sm hx (by omega) (fun M3 h3 => mo_put' h3 (s0 _ _ h3) hx (by simp only [List.length_append, dgo_len]; omega) (fun M4 h4 => ⟨fun w => absurd w z, fun _ => mo_put' h4 (s0 _ _ h4) hx (by simp only [List.length_append, List.length_singleton, dgo_len]; omega) (fun M5 h5 => mo_put' h5 (s0 _ _ h5) hx (by simp only [List.length_append, List.length_singleton, dgo_len]; omega) (fun M6 h6 => mo_putEnd h6 sm hx (by simp only [List.length_append, List.length_singleton, dgo_len]; omega) (fun M7 h7 => hk M7 h7)))⟩))
    · rw [ed]
      simp only [List.length_append, List.length_singleton, List.length_cons, List.length_nil, dgo_len]
      omega
theorem fin213_0 {m1 m2 mo M1 : MzM} {no : Int32 → MzM} {LO L2O : MzV} {a : Int32} {k : Nat} {K : MzM → Prop} (hk25 : k < 25) (hE : ∀ cc, EE mo LO (no cc) L2O) (ha : a.toInt = ((0 : Nat) : Int)) (hs : ∀ cc, (mz_i (no cc) (30, 0) 29).toInt = ((0 : Nat) : Int)) (hf : ∀ cc, mz_i (no cc) (30, 0) 30 = 0) (ho : ∀ cc, mz_i (no cc) (39, 0) 0 = 0 ∧ mz_i (no cc) (40, 0) 0 = 0) (hcp : ∀ cc, cpF m1 m2 mo (no cc)) (hv : mz_i mo (8, 0) 16 = 213) (hn : mz_i mo (8, 0) 14 = Int32.ofNat k) (h1 : A1 M1 mo LO) (hk : ∀ M1', (∀ (cc : Int32) (M2 : MzM) (K2 : MzM → Prop), A2 M2 (no cc) L2O → (∀ M2', OL m1 m2 0 M1' M2' → K2 M2') → wp_Mo_replySize (Int32.ofNat k) M2 (clrK a K2)) → K M1') : tlA 0 K M1 := by
  refine pl_startLine h1 (fun M3 h3 => ?_)
  have e3 : mz_i M3 (8, 0) 16 = 213 := (h3.1 (8, 0) 16 rfl).trans hv
  rw [e3]
  refine pl_answer213 h3 (fun M4 ds h4 => ?_)
  have e14 : mz_i (mz_si mo (12, 0) 3 0) (8, 0) 14 = Int32.ofNat k := hn
  rw [e14, dn_eq k hk25] at h4
  have e4 : mz_i M4 (8, 0) 16 = 213 := (h4.1 (8, 0) 16 rfl).trans hv
  have hns : nsp mo LO 0 := nsp_0 (hE 0)
  refine ⟨fun _ => pl_notSpent h4 hns (hk M4 (fun cc M2 K2 h2 hk2 => ?_)), fun z => absurd (e4.symm.trans z) (by decide)⟩
  refine mo_replySize h2 (hs cc) (by decide) (fun M5 h5 => mo_clr h5 ha (by decide) (fun M6 h6 => hk2 M6 ?_))
  have hq : L2O 45 0 = LO 9 0 := ((hE cc).1).2.1.symm
  have hdg : dgo 213 = dg 213 := by decide
  rw [hq, hdg] at h6
  refine ⟨_, _, _, _, h4, h6, ?_, hcp cc, ho cc, ⟨?_, posv hv (by decide)⟩, fun _ => ?_⟩
  · exact ee_line_0 (hE cc) ds _ 0
  · show mz_i mo (8, 0) 16 = fa (no cc) 213
    rw [hv, fa_0 (hf cc)]
  · exact ⟨hn, k, hk25, rfl⟩
theorem ob_0_8 : obPred 0 8 := by
  intro m1 m2 M L1 L2 fr vd a ss K hE o0 ha hfit hW hD hA hfr hss h hk
  obtain ⟨s1, s2, s3, s4, s5, s6, s7, s8, s9, s10, s11, s12, s13, s14, s15, s16⟩ := hE.1
  have hcl := spc_le (L1 13 0)
  have h30 : (L1 13 0).length ≤ 30 := (h.line 0).2.1
  have sl : spc (L2 43 0) = spc (L1 13 0) := by rw [s3]
  have hu : ¬ mz_i m1 (8, 0) 7 = 0 := hW.elim (fun z => absurd z (by decide)) id
  have hp : pth (L1 13 0) (spc (L1 13 0) + 1) = some ss := hss ((hz5 hfit).2.2 rfl)
  have hN := hE.2.2.1
  have hr0 := hE.2.2.2.2.1
  have hw0 : ¬ mz_i m2 (46, 0) 0 = 0 := by
    rcases s7 with ⟨p, q⟩ | ⟨p, q⟩ | ⟨p, q⟩
    · exact absurd q hu
    · rw [p]; decide
    · rw [p]; decide
  obtain ⟨tg, pl, htg, hpl, hpn, hcls, href⟩ := path_0 hE ha hu hfr hp h
  refine ⟨fun _ => hcls _ (fun M5 h5 => ⟨8, rfl, by decide, fun z => absurd z (by decide), fun _ => ?_, fun z => absurd z (by decide), fun z => absurd z (by decide), fun z => absurd z (by decide), fun z => absurd z (by decide), fun z => absurd z (by decide), fun z => absurd z (by decide), fun z => absurd z (by decide), fun z => absurd z (by decide), fun n12 n13 n14 n15 n16 n17 n18 n19 n20 n21 => absurd rfl n13⟩), fun z => absurd rfl z⟩
  have e12 : mz_i M5 (8, 0) 12 = tg := h5.1 (8, 0) 12 rfl
  have rf : ∀ (M2 : MzM) (K2 : MzM → Prop), A2 M2 (mz_si (nB m2 0 a) (30, 0) 32 (Int32.ofNat (spc (L2 43 0) + 1))) L2 → (∀ n : Nat, filE m2 n → tg = Int32.ofNat n → ∀ cc M4, A2 M4 (mz_si (mz_si (mz_si (mz_si (nB m2 0 a) (30, 0) 32 (Int32.ofNat (spc (L2 43 0) + 1))) (30, 0) 33 tg) (30, 0) 34 pl) (30, 0) 35 cc) L2 → wp_Mo_replySize (mz_i M4 (36, 0) n) M4 (clrK a K2)) → ((∀ n : Nat, ¬ (filE m2 n ∧ tg = Int32.ofNat n)) → ∀ cc M4, A2 M4 (mz_si (mz_si (mz_si (mz_si (nB m2 0 a) (30, 0) 32 (Int32.ofNat (spc (L2 43 0) + 1))) (30, 0) 33 tg) (30, 0) 34 pl) (30, 0) 35 cc) L2 → wp_Mo_answer 550 M4 (clrK a K2)) → wp_Mo_doLine_255 (clrK a K2) (mz_i m2 (47, 0) 0) (mz_i m2 (48, 0) 0) (mz_i m2 (49, 0) 0) (Int32.ofNat (8 + 1)) (eaI 8) M2 := by
    intro M2 K2 h2 k1 k0
    refine ⟨fun _ => mo_pc (fun _ => ⟨fun z => absurd z (by decide), fun _ => href M2 _ h2 (fun M3 cc h3 _ => ⟨fun _ => ?_, fun z => absurd (by decide) z⟩)⟩) (fun z => absurd z (by decide)), fun z => absurd z (by decide)⟩
    have e33 : mz_i M3 (30, 0) 33 = tg := h3.1 30 33 rfl
    have go : ∀ ys0 : Int32, wp_Mo_doPath_24 (clrK a K2) (Int32.ofNat (8 + 1)) (mz_i m2 (48, 0) 0) ys0 M3 := by
      intro ys0
      refine mo_freeNode h3 ?_
      refine ⟨fun z => absurd z (by decide), fun _ => ?_, fun z => absurd z (by decide), fun z => absurd z (by decide), fun z => absurd z (by decide), fun z => absurd z (by decide), fun n7 n9 n17 n18 n19 n20 => absurd rfl n9⟩
      rw [e33]
      rcases htg with q | ⟨n, hn, hth, etg⟩
      · refine ⟨fun _ => k0 (fun n z => ?_) cc M3 h3, fun z => absurd (by rw [q]; decide) z⟩
        rw [q] at z
        exact nneg z.1.1 z.2
      · have tn : tg.toInt = (n : Int) := by rw [etg]; exact itn (by omega)
        have c33 : mz_i M3 (33, 0) n = mz_i m2 (33, 0) n := h3.1 33 n rfl
        refine ⟨fun z => absurd ((ilt (n := 0) tn rfl).mp z) (by omega), fun _ => ⟨n, tn, hn, ?_⟩⟩
        rw [c33]
        refine ⟨fun z => k0 (fun n' w => ?_) cc M3 h3, fun z => ⟨n, tn, hn, k1 n ⟨hn, hth, (z01 (hN n hn).2.1).mp z⟩ etg cc M3 h3⟩⟩
        have en := ofN_inj (by omega) (by have := w.1.1; omega) (etg.symm.trans w.2)
        rw [← en] at w
        exact absurd (z.symm.trans w.1.2.2) (by decide)
    exact mo_flag (m2 := m2) h3 rfl rfl rfl (fun n hn => (hN n hn).2.1) htg (fun _ => go 1) (fun _ => go 0)
  unfold wp_Ses_tellSize
  rw [e12]
  refine pl_isFile (m2 := m2) (L1 := L1) (L2 := L2) h5 (fun n hn => hN n hn) (fun n hf etg => ⟨fun _ => ⟨n, ?_, hf.1, ?_⟩, fun z => absurd z (by decide)⟩) (fun hz => ⟨fun z => absurd rfl z, fun _ => ?_⟩)
  · rw [e12, etg]
    exact itn (by have := hf.1; omega)
  · obtain ⟨d1, d2, d3⟩ := h5.2.2.1 5 4 1 24 n rfl
    have d2' : (L1 5 n).length ≤ 24 := d2
    have d1' : mz_i M5 (4, n) 1 = Int32.ofNat (L1 5 n).length := d1
    rw [d1']
    rintro _ rfl
    have h6 := h5.si (o := (8, 0)) (k := 14) (v := Int32.ofNat (L1 5 n).length) rfl
    rintro _ rfl
    have ht := h6.si (o := (8, 0)) (k := 16) (v := 213) rfl
    refine pl_forget (v := 213) false false false ht rfl (fg_s (by decide)) (fg_2 (by decide)) (fg_2 (by decide)) (fun M9 h9 => ?_)
    have hEE : ∀ cc : Int32, EE (fgM (mz_si (mz_si (mz_si (mz_si (mz_si (mS m1 0 (spc (L1 13 0)) fr vd) (8, 0) 16 0) (8, 0) 12 tg) (8, 0) 13 pl) (8, 0) 14 (Int32.ofNat (L1 5 n).length)) (8, 0) 16 213) 0 false false false) (lu L1 15 0 ss) (mz_si (mz_si (mz_si (mz_si (nB m2 0 a) (30, 0) 32 (Int32.ofNat (spc (L2 43 0) + 1))) (30, 0) 33 tg) (30, 0) 34 pl) (30, 0) 35 cc) L2 := fun cc => ⟨⟨s1, s2, s3, Or.inl ⟨o0, rfl⟩, rfl, s6, s7, Or.inl ⟨rfl, rfl⟩, ⟨rfl, Or.inl rfl⟩, ⟨rfl, 0, by decide, rfl⟩, s11, s12, s13, s14, s15, s16⟩, hE.2.1, hE.2.2⟩
    refine fin213_0 (m1 := m1) (m2 := m2) (a := a) (k := (L1 5 n).length) (no := fun cc => (mz_si (mz_si (mz_si (mz_si (nB m2 0 a) (30, 0) 32 (Int32.ofNat (spc (L2 43 0) + 1))) (30, 0) 33 tg) (30, 0) 34 pl) (30, 0) 35 cc)) (by omega) hEE ha (fun _ => ha) (fun _ => rfl) (fun _ => ⟨o0, rfl⟩) (fun _ => ⟨fun _ => rfl, rfl, rfl, rfl, rfl, rfl, rfl, rfl, rfl, rfl⟩) rfl rfl h9 (fun M1' hr => hk M1' (fun M2 K2 h2 hk2 => rf M2 K2 h2 (fun n' hf' etg' cc M4 h4 => ?_) (fun w => absurd ⟨hf, etg⟩ (w n))))
    have en := ofN_inj (by have := hf.1; omega) (by have := hf'.1; omega) (etg.symm.trans etg')
    subst en
    obtain ⟨f1, f2, f3⟩ := h4.2 38 36 24 16 n rfl hf.1
    have el : L2 38 n = L1 5 n := ((hN n hf.1).2.2.2.2.2 hf).1.symm
    rw [f1, el]
    exact hr cc M4 K2 h4 hk2
  · skip
    rintro _ rfl
    have ht := h5.si (o := (8, 0)) (k := 16) (v := 550) rfl
    refine pl_forget (v := 550) false false false ht rfl (fg_s (by decide)) (fg_2 (by decide)) (fg_2 (by decide)) (fun M9 h9 => ?_)
    have hEE : ∀ cc : Int32, EE (fgM (mz_si (mz_si (mz_si (mz_si (mS m1 0 (spc (L1 13 0)) fr vd) (8, 0) 16 0) (8, 0) 12 tg) (8, 0) 13 pl) (8, 0) 16 550) 0 false false false) (lu L1 15 0 ss) ((mz_si (mz_si (mz_si (mz_si (nB m2 0 a) (30, 0) 32 (Int32.ofNat (spc (L2 43 0) + 1))) (30, 0) 33 tg) (30, 0) 34 pl) (30, 0) 35 cc)) L2 := fun cc => ⟨⟨s1, s2, s3, Or.inl ⟨o0, rfl⟩, rfl, s6, s7, Or.inl ⟨rfl, rfl⟩, ⟨rfl, Or.inl rfl⟩, ⟨rfl, 0, by decide, rfl⟩, s11, s12, s13, s14, s15, s16⟩, hE.2.1, hE.2.2⟩
    refine finF_0 (m1 := m1) (m2 := m2) (v := 550) (a := a) (no := fun cc => (mz_si (mz_si (mz_si (mz_si (nB m2 0 a) (30, 0) 32 (Int32.ofNat (spc (L2 43 0) + 1))) (30, 0) 33 tg) (30, 0) 34 pl) (30, 0) 35 cc)) hEE ha (fun _ => ha) (fun _ => rfl) (by decide) (by decide) (by decide) (by decide) (fun _ => ⟨o0, rfl⟩) (fun _ => ⟨fun _ => rfl, rfl, rfl, rfl, rfl, rfl, rfl, rfl, rfl, rfl⟩) rfl h9 (fun M1' hr => hk M1' (fun M2 K2 h2 hk2 => rf M2 K2 h2 (fun n hf etg => absurd ⟨hf, etg⟩ (hz n)) (fun _ cc M4 h4 => hr cc M4 K2 h4 hk2)))
theorem fin213_1 {m1 m2 mo M1 : MzM} {no : Int32 → MzM} {LO L2O : MzV} {a : Int32} {k : Nat} {K : MzM → Prop} (hk25 : k < 25) (hE : ∀ cc, EE mo LO (no cc) L2O) (ha : a.toInt = ((1 : Nat) : Int)) (hs : ∀ cc, (mz_i (no cc) (30, 0) 29).toInt = ((1 : Nat) : Int)) (hf : ∀ cc, mz_i (no cc) (30, 0) 30 = 0) (ho : ∀ cc, mz_i (no cc) (39, 0) 1 = 0 ∧ mz_i (no cc) (40, 0) 1 = 0) (hcp : ∀ cc, cpF m1 m2 mo (no cc)) (hv : mz_i mo (8, 1) 16 = 213) (hn : mz_i mo (8, 1) 14 = Int32.ofNat k) (h1 : A1 M1 mo LO) (hk : ∀ M1', (∀ (cc : Int32) (M2 : MzM) (K2 : MzM → Prop), A2 M2 (no cc) L2O → (∀ M2', OL m1 m2 1 M1' M2' → K2 M2') → wp_Mo_replySize (Int32.ofNat k) M2 (clrK a K2)) → K M1') : tlA 1 K M1 := by
  refine pl_startLine h1 (fun M3 h3 => ?_)
  have e3 : mz_i M3 (8, 1) 16 = 213 := (h3.1 (8, 1) 16 rfl).trans hv
  rw [e3]
  refine pl_answer213 h3 (fun M4 ds h4 => ?_)
  have e14 : mz_i (mz_si mo (12, 1) 3 0) (8, 1) 14 = Int32.ofNat k := hn
  rw [e14, dn_eq k hk25] at h4
  have e4 : mz_i M4 (8, 1) 16 = 213 := (h4.1 (8, 1) 16 rfl).trans hv
  have hns : nsp mo LO 1 := nsp_1 (hE 0)
  refine ⟨fun _ => pl_notSpent h4 hns (hk M4 (fun cc M2 K2 h2 hk2 => ?_)), fun z => absurd (e4.symm.trans z) (by decide)⟩
  refine mo_replySize h2 (hs cc) (by decide) (fun M5 h5 => mo_clr h5 ha (by decide) (fun M6 h6 => hk2 M6 ?_))
  have hq : L2O 45 1 = LO 9 1 := ((hE cc).2.1).2.1.symm
  have hdg : dgo 213 = dg 213 := by decide
  rw [hq, hdg] at h6
  refine ⟨_, _, _, _, h4, h6, ?_, hcp cc, ho cc, ⟨?_, posv hv (by decide)⟩, fun _ => ?_⟩
  · exact ee_line_1 (hE cc) ds _ 0
  · show mz_i mo (8, 1) 16 = fa (no cc) 213
    rw [hv, fa_0 (hf cc)]
  · exact ⟨hn, k, hk25, rfl⟩
theorem ob_1_8 : obPred 1 8 := by
  intro m1 m2 M L1 L2 fr vd a ss K hE o0 ha hfit hW hD hA hfr hss h hk
  obtain ⟨s1, s2, s3, s4, s5, s6, s7, s8, s9, s10, s11, s12, s13, s14, s15, s16⟩ := hE.2.1
  have hcl := spc_le (L1 13 1)
  have h30 : (L1 13 1).length ≤ 30 := (h.line 1).2.1
  have sl : spc (L2 43 1) = spc (L1 13 1) := by rw [s3]
  have hu : ¬ mz_i m1 (8, 1) 7 = 0 := hW.elim (fun z => absurd z (by decide)) id
  have hp : pth (L1 13 1) (spc (L1 13 1) + 1) = some ss := hss ((hz5 hfit).2.2 rfl)
  have hN := hE.2.2.1
  have hr0 := hE.2.2.2.2.1
  have hw0 : ¬ mz_i m2 (46, 0) 1 = 0 := by
    rcases s7 with ⟨p, q⟩ | ⟨p, q⟩ | ⟨p, q⟩
    · exact absurd q hu
    · rw [p]; decide
    · rw [p]; decide
  obtain ⟨tg, pl, htg, hpl, hpn, hcls, href⟩ := path_1 hE ha hu hfr hp h
  refine ⟨fun _ => hcls _ (fun M5 h5 => ⟨8, rfl, by decide, fun z => absurd z (by decide), fun _ => ?_, fun z => absurd z (by decide), fun z => absurd z (by decide), fun z => absurd z (by decide), fun z => absurd z (by decide), fun z => absurd z (by decide), fun z => absurd z (by decide), fun z => absurd z (by decide), fun z => absurd z (by decide), fun n12 n13 n14 n15 n16 n17 n18 n19 n20 n21 => absurd rfl n13⟩), fun z => absurd rfl z⟩
  have e12 : mz_i M5 (8, 1) 12 = tg := h5.1 (8, 1) 12 rfl
  have rf : ∀ (M2 : MzM) (K2 : MzM → Prop), A2 M2 (mz_si (nB m2 1 a) (30, 0) 32 (Int32.ofNat (spc (L2 43 1) + 1))) L2 → (∀ n : Nat, filE m2 n → tg = Int32.ofNat n → ∀ cc M4, A2 M4 (mz_si (mz_si (mz_si (mz_si (nB m2 1 a) (30, 0) 32 (Int32.ofNat (spc (L2 43 1) + 1))) (30, 0) 33 tg) (30, 0) 34 pl) (30, 0) 35 cc) L2 → wp_Mo_replySize (mz_i M4 (36, 0) n) M4 (clrK a K2)) → ((∀ n : Nat, ¬ (filE m2 n ∧ tg = Int32.ofNat n)) → ∀ cc M4, A2 M4 (mz_si (mz_si (mz_si (mz_si (nB m2 1 a) (30, 0) 32 (Int32.ofNat (spc (L2 43 1) + 1))) (30, 0) 33 tg) (30, 0) 34 pl) (30, 0) 35 cc) L2 → wp_Mo_answer 550 M4 (clrK a K2)) → wp_Mo_doLine_255 (clrK a K2) (mz_i m2 (47, 0) 1) (mz_i m2 (48, 0) 1) (mz_i m2 (49, 0) 1) (Int32.ofNat (8 + 1)) (eaI 8) M2 := by
    intro M2 K2 h2 k1 k0
    refine ⟨fun _ => mo_pc (fun _ => ⟨fun z => absurd z (by decide), fun _ => href M2 _ h2 (fun M3 cc h3 _ => ⟨fun _ => ?_, fun z => absurd (by decide) z⟩)⟩) (fun z => absurd z (by decide)), fun z => absurd z (by decide)⟩
    have e33 : mz_i M3 (30, 0) 33 = tg := h3.1 30 33 rfl
    have go : ∀ ys0 : Int32, wp_Mo_doPath_24 (clrK a K2) (Int32.ofNat (8 + 1)) (mz_i m2 (48, 0) 1) ys0 M3 := by
      intro ys0
      refine mo_freeNode h3 ?_
      refine ⟨fun z => absurd z (by decide), fun _ => ?_, fun z => absurd z (by decide), fun z => absurd z (by decide), fun z => absurd z (by decide), fun z => absurd z (by decide), fun n7 n9 n17 n18 n19 n20 => absurd rfl n9⟩
      rw [e33]
      rcases htg with q | ⟨n, hn, hth, etg⟩
      · refine ⟨fun _ => k0 (fun n z => ?_) cc M3 h3, fun z => absurd (by rw [q]; decide) z⟩
        rw [q] at z
        exact nneg z.1.1 z.2
      · have tn : tg.toInt = (n : Int) := by rw [etg]; exact itn (by omega)
        have c33 : mz_i M3 (33, 0) n = mz_i m2 (33, 0) n := h3.1 33 n rfl
        refine ⟨fun z => absurd ((ilt (n := 0) tn rfl).mp z) (by omega), fun _ => ⟨n, tn, hn, ?_⟩⟩
        rw [c33]
        refine ⟨fun z => k0 (fun n' w => ?_) cc M3 h3, fun z => ⟨n, tn, hn, k1 n ⟨hn, hth, (z01 (hN n hn).2.1).mp z⟩ etg cc M3 h3⟩⟩
        have en := ofN_inj (by omega) (by have := w.1.1; omega) (etg.symm.trans w.2)
        rw [← en] at w
        exact absurd (z.symm.trans w.1.2.2) (by decide)
    exact mo_flag (m2 := m2) h3 rfl rfl rfl (fun n hn => (hN n hn).2.1) htg (fun _ => go 1) (fun _ => go 0)
  unfold wp_Ses_tellSize
  rw [e12]
  refine pl_isFile (m2 := m2) (L1 := L1) (L2 := L2) h5 (fun n hn => hN n hn) (fun n hf etg => ⟨fun _ => ⟨n, ?_, hf.1, ?_⟩, fun z => absurd z (by decide)⟩) (fun hz => ⟨fun z => absurd rfl z, fun _ => ?_⟩)
  · rw [e12, etg]
    exact itn (by have := hf.1; omega)
  · obtain ⟨d1, d2, d3⟩ := h5.2.2.1 5 4 1 24 n rfl
    have d2' : (L1 5 n).length ≤ 24 := d2
    have d1' : mz_i M5 (4, n) 1 = Int32.ofNat (L1 5 n).length := d1
    rw [d1']
    rintro _ rfl
    have h6 := h5.si (o := (8, 1)) (k := 14) (v := Int32.ofNat (L1 5 n).length) rfl
    rintro _ rfl
    have ht := h6.si (o := (8, 1)) (k := 16) (v := 213) rfl
    refine pl_forget (v := 213) false false false ht rfl (fg_s (by decide)) (fg_2 (by decide)) (fg_2 (by decide)) (fun M9 h9 => ?_)
    have hEE : ∀ cc : Int32, EE (fgM (mz_si (mz_si (mz_si (mz_si (mz_si (mS m1 1 (spc (L1 13 1)) fr vd) (8, 1) 16 0) (8, 1) 12 tg) (8, 1) 13 pl) (8, 1) 14 (Int32.ofNat (L1 5 n).length)) (8, 1) 16 213) 1 false false false) (lu L1 15 1 ss) (mz_si (mz_si (mz_si (mz_si (nB m2 1 a) (30, 0) 32 (Int32.ofNat (spc (L2 43 1) + 1))) (30, 0) 33 tg) (30, 0) 34 pl) (30, 0) 35 cc) L2 := fun cc => ⟨hE.1, ⟨s1, s2, s3, Or.inl ⟨o0, rfl⟩, rfl, s6, s7, Or.inl ⟨rfl, rfl⟩, ⟨rfl, Or.inl rfl⟩, ⟨rfl, 0, by decide, rfl⟩, s11, s12, s13, s14, s15, s16⟩, hE.2.2⟩
    refine fin213_1 (m1 := m1) (m2 := m2) (a := a) (k := (L1 5 n).length) (no := fun cc => (mz_si (mz_si (mz_si (mz_si (nB m2 1 a) (30, 0) 32 (Int32.ofNat (spc (L2 43 1) + 1))) (30, 0) 33 tg) (30, 0) 34 pl) (30, 0) 35 cc)) (by omega) hEE ha (fun _ => ha) (fun _ => rfl) (fun _ => ⟨o0, rfl⟩) (fun _ => ⟨fun _ => rfl, rfl, rfl, rfl, rfl, rfl, rfl, rfl, rfl, rfl⟩) rfl rfl h9 (fun M1' hr => hk M1' (fun M2 K2 h2 hk2 => rf M2 K2 h2 (fun n' hf' etg' cc M4 h4 => ?_) (fun w => absurd ⟨hf, etg⟩ (w n))))
    have en := ofN_inj (by have := hf.1; omega) (by have := hf'.1; omega) (etg.symm.trans etg')
    subst en
    obtain ⟨f1, f2, f3⟩ := h4.2 38 36 24 16 n rfl hf.1
    have el : L2 38 n = L1 5 n := ((hN n hf.1).2.2.2.2.2 hf).1.symm
    rw [f1, el]
    exact hr cc M4 K2 h4 hk2
  · skip
    rintro _ rfl
    have ht := h5.si (o := (8, 1)) (k := 16) (v := 550) rfl
    refine pl_forget (v := 550) false false false ht rfl (fg_s (by decide)) (fg_2 (by decide)) (fg_2 (by decide)) (fun M9 h9 => ?_)
    have hEE : ∀ cc : Int32, EE (fgM (mz_si (mz_si (mz_si (mz_si (mS m1 1 (spc (L1 13 1)) fr vd) (8, 1) 16 0) (8, 1) 12 tg) (8, 1) 13 pl) (8, 1) 16 550) 1 false false false) (lu L1 15 1 ss) ((mz_si (mz_si (mz_si (mz_si (nB m2 1 a) (30, 0) 32 (Int32.ofNat (spc (L2 43 1) + 1))) (30, 0) 33 tg) (30, 0) 34 pl) (30, 0) 35 cc)) L2 := fun cc => ⟨hE.1, ⟨s1, s2, s3, Or.inl ⟨o0, rfl⟩, rfl, s6, s7, Or.inl ⟨rfl, rfl⟩, ⟨rfl, Or.inl rfl⟩, ⟨rfl, 0, by decide, rfl⟩, s11, s12, s13, s14, s15, s16⟩, hE.2.2⟩
    refine finF_1 (m1 := m1) (m2 := m2) (v := 550) (a := a) (no := fun cc => (mz_si (mz_si (mz_si (mz_si (nB m2 1 a) (30, 0) 32 (Int32.ofNat (spc (L2 43 1) + 1))) (30, 0) 33 tg) (30, 0) 34 pl) (30, 0) 35 cc)) hEE ha (fun _ => ha) (fun _ => rfl) (by decide) (by decide) (by decide) (by decide) (fun _ => ⟨o0, rfl⟩) (fun _ => ⟨fun _ => rfl, rfl, rfl, rfl, rfl, rfl, rfl, rfl, rfl, rfl⟩) rfl h9 (fun M1' hr => hk M1' (fun M2 K2 h2 hk2 => rf M2 K2 h2 (fun n hf etg => absurd ⟨hf, etg⟩ (hz n)) (fun _ cc M4 h4 => hr cc M4 K2 h4 hk2)))
