theorem fg_s {v : Int32} (h : ¬ v = 331) : (false = true ↔ v = 331) := ⟨fun z => absurd z (by decide), fun z => absurd z h⟩
theorem fg_2 {v : Int32} {c k : Nat} (h : ¬ (v = 350 ∧ c = k)) : (false = true ↔ (v = 350 ∧ c = k)) := ⟨fun z => absurd z (by decide), fun z => absurd z h⟩
theorem hz5 {l : List Int32} {b : Nat} {k : Int32} (h : fitK l b k) : (k = 2 → aisP l [65] b ∨ aisP l [73] b) ∧ (k = 3 → ∃ j : Nat, j ≤ 24 ∧ numP l b j) ∧ (k = 4 → (pth l b).isSome = true) := by
  refine ⟨fun e => ?_, fun e => ?_, fun e => ?_⟩
  · rcases h with z | z | z | z | z
    · exact absurd (z.1.symm.trans e) (by decide)
    · exact absurd (z.1.symm.trans e) (by decide)
    · exact z.2
    · exact absurd (z.1.symm.trans e) (by decide)
    · exact absurd (z.1.symm.trans e) (by decide)
  · rcases h with z | z | z | z | z
    · exact absurd (z.1.symm.trans e) (by decide)
    · exact absurd (z.1.symm.trans e) (by decide)
    · exact absurd (z.1.symm.trans e) (by decide)
    · exact z.2.2
    · exact absurd (z.1.symm.trans e) (by decide)
  · rcases h with z | z | z | z | z
    · exact absurd (z.1.symm.trans e) (by decide)
    · exact absurd (z.1.symm.trans e) (by decide)
    · exact absurd (z.1.symm.trans e) (by decide)
    · exact absurd (z.1.symm.trans e) (by decide)
    · exact z.2.2
theorem ob_0_3 : obPred 0 3 := by
  intro m1 m2 M L1 L2 fr vd a ss K hE o0 ha hfit hW hD hA hfr hss h hk
  obtain ⟨s1, s2, s3, s4, s5, s6, s7, s8, s9, s10, s11, s12, s13, s14, s15, s16⟩ := hE.1
  have hcl := spc_le (L1 13 0)
  have h30 : (L1 13 0).length ≤ 30 := (h.line 0).2.1
  have sl : spc (L2 43 0) = spc (L1 13 0) := by rw [s3]
  refine ⟨fun z => absurd z (by decide), fun _ => ⟨3, rfl, by decide, fun z => absurd z (by decide), fun z => absurd z (by decide), fun z => absurd z (by decide), fun _ => ?_, fun z => absurd z (by decide), fun z => absurd z (by decide), fun z => absurd z (by decide), fun z => absurd z (by decide), fun z => absurd z (by decide), fun z => absurd z (by decide), fun z => absurd z (by decide), fun n1 n2 n3 n4 n5 n6 n7 n8 n9 n10 n11 => absurd rfl n4⟩⟩
  rintro _ rfl
  have ht := h.si (o := (8, 0)) (k := 16) (v := 200) rfl
  refine pl_forget (v := 200) false false false ht rfl (fg_s (by decide)) (fg_2 (by decide)) (fg_2 (by decide)) (fun M9 h9 => ?_)
  have hEE : EE (fgM (mz_si (mz_si (mS m1 0 (spc (L1 13 0)) fr vd) (8, 0) 16 0) (8, 0) 16 200) 0 false false false) (lu L1 15 0 ss) (mz_si (nB m2 0 a) (30, 0) 32 (Int32.ofNat (spc (L2 43 0) + 1))) L2 := ⟨⟨s1, s2, s3, Or.inl ⟨o0, rfl⟩, rfl, s6, s7, Or.inl ⟨rfl, rfl⟩, ⟨rfl, Or.inl rfl⟩, ⟨rfl, 0, by decide, rfl⟩, s11, s12, s13, s14, s15, s16⟩, hE.2⟩
  refine fin5_0 (m1 := m1) (m2 := m2) (v := 200) (a := a) hEE ha ha rfl (by decide) (by decide) (by decide) (by decide) ⟨o0, rfl⟩ ⟨fun _ => rfl, rfl, rfl, rfl, rfl, rfl, rfl, rfl, rfl, rfl⟩ rfl h9 (fun M1' hr => hk M1' (fun M2 K2 h2 hk2 => ⟨fun z => absurd z (by decide), fun _ => ⟨fun _ => ⟨fun _ => ⟨fun _ => hr M2 K2 h2 hk2, fun z => absurd z (by decide)⟩, fun z => absurd z (by decide)⟩, fun z => absurd z (by decide)⟩⟩))
theorem ob_0_9 : obPred 0 9 := by
  intro m1 m2 M L1 L2 fr vd a ss K hE o0 ha hfit hW hD hA hfr hss h hk
  obtain ⟨s1, s2, s3, s4, s5, s6, s7, s8, s9, s10, s11, s12, s13, s14, s15, s16⟩ := hE.1
  have hcl := spc_le (L1 13 0)
  have h30 : (L1 13 0).length ≤ 30 := (h.line 0).2.1
  have sl : spc (L2 43 0) = spc (L1 13 0) := by rw [s3]
  refine ⟨fun z => absurd z (by decide), fun _ => ⟨9, rfl, by decide, fun z => absurd z (by decide), fun z => absurd z (by decide), fun z => absurd z (by decide), fun z => absurd z (by decide), fun z => absurd z (by decide), fun z => absurd z (by decide), fun z => absurd z (by decide), fun _ => ?_, fun z => absurd z (by decide), fun z => absurd z (by decide), fun z => absurd z (by decide), fun n1 n2 n3 n4 n5 n6 n7 n8 n9 n10 n11 => absurd rfl n8⟩⟩
  rintro _ rfl
  have h3 := h.si (o := (16, 0)) (k := 0) (v := 1) rfl
  rintro _ rfl
  have ht := h3.si (o := (8, 0)) (k := 16) (v := 227) rfl
  refine pl_forget (v := 227) false false false ht rfl (fg_s (by decide)) (fg_2 (by decide)) (fg_2 (by decide)) (fun M9 h9 => ?_)
  have hEE : EE (fgM (mz_si (mz_si (mz_si (mS m1 0 (spc (L1 13 0)) fr vd) (8, 0) 16 0) (16, 0) 0 1) (8, 0) 16 227) 0 false false false) (lu L1 15 0 ss) (mz_si (mz_si (nB m2 0 a) (30, 0) 32 (Int32.ofNat (spc (L2 43 0) + 1))) (52, 0) 0 1) L2 := ⟨⟨s1, s2, s3, Or.inl ⟨o0, rfl⟩, rfl, s6, s7, Or.inl ⟨rfl, rfl⟩, ⟨rfl, Or.inl rfl⟩, ⟨rfl, 0, by decide, rfl⟩, s11, s12, rfl, s14, s15, s16⟩, hE.2⟩
  refine fin5_0 (m1 := m1) (m2 := m2) (v := 227) (a := a) hEE ha ha rfl (by decide) (by decide) (by decide) (by decide) ⟨o0, rfl⟩ ⟨fun _ => rfl, rfl, rfl, rfl, rfl, rfl, rfl, rfl, rfl, rfl⟩ rfl h9 (fun M1' hr => hk M1' (fun M2 K2 h2 hk2 => ?_))
  have s0 : (mz_i M2 (30, 0) 29).toInt = ((0 : Nat) : Int) := by rw [h2.1 30 29 rfl]; exact ha
  refine ⟨fun _ => mo_pc (fun z => absurd z (by decide)) (fun _ => ⟨fun _ => ?_, fun z => absurd rfl z⟩), fun z => absurd z (by decide)⟩
  refine ⟨fun z => absurd z (by decide), fun z => absurd z (by decide), fun z => absurd z (by decide), fun _ => ⟨0, s0, by decide, ?_⟩, fun z => absurd z (by decide), fun z => absurd z (by decide), fun n5 n6 n8 n10 n11 n16 => absurd rfl n10⟩
  rintro _ rfl
  exact hr _ K2 (h2.si (t := 52) (k := 0) (v := 1) rfl) hk2
theorem ob_0_10 : obPred 0 10 := by
  intro m1 m2 M L1 L2 fr vd a ss K hE o0 ha hfit hW hD hA hfr hss h hk
  obtain ⟨s1, s2, s3, s4, s5, s6, s7, s8, s9, s10, s11, s12, s13, s14, s15, s16⟩ := hE.1
  have hcl := spc_le (L1 13 0)
  have h30 : (L1 13 0).length ≤ 30 := (h.line 0).2.1
  have sl : spc (L2 43 0) = spc (L1 13 0) := by rw [s3]
  obtain ⟨j, hj, hnum⟩ := (hz5 hfit).2.1 rfl
  have hl13 : lu L1 15 0 ss 13 0 = L1 13 0 := rfl
  refine ⟨fun z => absurd z (by decide), fun _ => ⟨10, rfl, by decide, fun z => absurd z (by decide), fun z => absurd z (by decide), fun z => absurd z (by decide), fun z => absurd z (by decide), fun z => absurd z (by decide), fun z => absurd z (by decide), fun z => absurd z (by decide), fun z => absurd z (by decide), fun _ => pl_argumentNumber (cl := spc (L1 13 0)) h rfl hcl (fun k hk9 hn => ?_) (fun hz => absurd hnum (hz j)), fun z => absurd z (by decide), fun z => absurd z (by decide), fun n1 n2 n3 n4 n5 n6 n7 n8 n9 n10 n11 => absurd rfl n9⟩⟩
  have ekj := numP_uniq hn hnum
  subst ekj
  rintro _ rfl
  have h3 := h.si (o := (8, 0)) (k := 11) (v := Int32.ofNat k) rfl
  rintro _ rfl
  have ht := h3.si (o := (8, 0)) (k := 16) (v := 350) rfl
  refine pl_forget (v := 350) false false true ht rfl (fg_s (by decide)) (fg_2 (by decide)) (⟨fun _ => ⟨rfl, rfl⟩, fun _ => rfl⟩) (fun M9 h9 => ?_)
  have hEE : EE (fgM (mz_si (mz_si (mz_si (mS m1 0 (spc (L1 13 0)) fr vd) (8, 0) 16 0) (8, 0) 11 (Int32.ofNat k)) (8, 0) 16 350) 0 false false true) (lu L1 15 0 ss) (mz_si (mz_si (nB m2 0 a) (30, 0) 32 (Int32.ofNat (spc (L2 43 0) + 1))) (49, 0) 0 (Int32.ofNat k)) L2 := ⟨⟨s1, s2, s3, Or.inl ⟨o0, rfl⟩, rfl, s6, s7, Or.inl ⟨rfl, rfl⟩, ⟨rfl, Or.inl rfl⟩, ⟨rfl, k, hj, rfl⟩, s11, s12, s13, s14, s15, s16⟩, hE.2⟩
  refine fin5_0 (m1 := m1) (m2 := m2) (v := 350) (a := a) hEE ha ha rfl (by decide) (by decide) (by decide) (by decide) ⟨o0, rfl⟩ ⟨fun _ => rfl, rfl, rfl, rfl, rfl, rfl, rfl, rfl, rfl, rfl⟩ rfl h9 (fun M1' hr => hk M1' (fun M2 K2 h2 hk2 => ?_))
  have s0 : (mz_i M2 (30, 0) 29).toInt = ((0 : Nat) : Int) := by rw [h2.1 30 29 rfl]; exact ha
  refine ⟨fun _ => mo_pc (fun z => absurd z (by decide)) (fun _ => ⟨fun _ => ?_, fun z => absurd rfl z⟩), fun z => absurd z (by decide)⟩
  refine ⟨fun z => absurd z (by decide), fun z => absurd z (by decide), fun z => absurd z (by decide), fun z => absurd z (by decide), fun _ => mo_number (x := 0) (b := spc (L2 43 0) + 1) h2 ha (by decide) rfl (by omega) (fun k' hk' hn' => ⟨0, s0, by decide, ?_⟩) (fun hz => absurd (by rw [sl, ← s3]; exact hnum) (hz k hj)), fun z => absurd z (by decide), fun n5 n6 n8 n10 n11 n16 => absurd rfl n11⟩
  rw [sl, ← s3] at hn'
  have e2 := numP_uniq hn' hnum
  subst e2
  rintro _ rfl
  exact hr _ K2 (h2.si (t := 49) (k := 0) (v := Int32.ofNat k') rfl) hk2
theorem ob_0_4 : obPred 0 4 := by
  intro m1 m2 M L1 L2 fr vd a ss K hE o0 ha hfit hW hD hA hfr hss h hk
  obtain ⟨s1, s2, s3, s4, s5, s6, s7, s8, s9, s10, s11, s12, s13, s14, s15, s16⟩ := hE.1
  have hcl := spc_le (L1 13 0)
  have h30 : (L1 13 0).length ≤ 30 := (h.line 0).2.1
  have sl : spc (L2 43 0) = spc (L1 13 0) := by rw [s3]
  have r53 : mz_i m2 (53, 0) 0 = 0 := s14.symm.trans (hD.elim (fun z => absurd rfl z) id)
  have s16' := s16
  rcases s16' with t16 | ⟨t16, _⟩ | ⟨t16, _⟩
  rotate_left
  · exact absurd (r53.symm.trans t16) (by decide)
  · exact absurd (r53.symm.trans t16) (by decide)
  have hty := (hz5 hfit).1 rfl
  have hb : spc (L1 13 0) + 1 < (L1 13 0).length := by
    rcases hty with z | z
    · have := z.1
      simp only [List.length_singleton] at this
      omega
    · have := z.1
      simp only [List.length_singleton] at this
      omega
  have w0 : mzStrB.getD 0 [] = [65] := rfl
  have tb : (Int32.ofNat (spc (L2 43 0) + 1)).toInt = ((spc (L2 43 0) + 1 : Nat) : Int) := itn (by omega)
  have step : ∀ (v : Int32), (v = 0 ∧ ¬ ix (L1 13 0) (spc (L1 13 0) + 1) = 65) ∨ (v = 1 ∧ ix (L1 13 0) (spc (L1 13 0) + 1) = 65) → ∀ M20 : MzM, M20 = mz_si M (8, 0) 8 v → ∀ M129 : MzM, M129 = mz_si M20 (8, 0) 16 200 → tl 0 4 K M129 := by
    intro v hv
    rintro _ rfl
    have h3 := h.si (o := (8, 0)) (k := 8) (v := v) rfl
    rintro _ rfl
    have ht := h3.si (o := (8, 0)) (k := 16) (v := 200) rfl
    refine pl_forget (v := 200) false false false ht rfl (fg_s (by decide)) (fg_2 (by decide)) (fg_2 (by decide)) (fun M9 h9 => ?_)
    have hEE : EE (fgM (mz_si (mz_si (mz_si (mS m1 0 (spc (L1 13 0)) fr vd) (8, 0) 16 0) (8, 0) 8 v) (8, 0) 16 200) 0 false false false) (lu L1 15 0 ss) (mz_si (mz_si (nB m2 0 a) (30, 0) 32 (Int32.ofNat (spc (L2 43 0) + 1))) (51, 0) 0 v) L2 := ⟨⟨s1, s2, s3, Or.inl ⟨o0, rfl⟩, rfl, s6, s7, Or.inl ⟨rfl, rfl⟩, ⟨rfl, Or.inl rfl⟩, ⟨rfl, 0, by decide, rfl⟩, s11, ⟨rfl, hv.elim (fun z => Or.inl z.1) (fun z => Or.inr z.1)⟩, s13, s14, s15, Or.inl t16⟩, hE.2⟩
    refine fin5_0 (m1 := m1) (m2 := m2) (v := 200) (a := a) hEE ha ha rfl (by decide) (by decide) (by decide) (by decide) ⟨o0, rfl⟩ ⟨fun _ => rfl, rfl, rfl, rfl, rfl, rfl, rfl, rfl, rfl, rfl⟩ rfl h9 (fun M1' hr => hk M1' (fun M2 K2 h2 hk2 => ?_))
    have s0 : (mz_i M2 (30, 0) 29).toInt = ((0 : Nat) : Int) := by rw [h2.1 30 29 rfl]; exact ha
    refine ⟨fun _ => mo_pc (fun z => absurd z (by decide)) (fun _ => ⟨fun _ => ?_, fun z => absurd rfl z⟩), fun z => absurd z (by decide)⟩
    have go : wp_Mo_ch (mz_i M2 (30, 0) 32) M2 (fun v4 M1 => ((¬ v4 = (65 : Int32) → (∃ j8 : Nat, (mz_i M2 (30, 0) 29).toInt = (j8 : Int) ∧ j8 < 2 ∧ ∀ M5 : MzM, M5 = mz_si M1 (51, 0) j8 (0 : Int32) → wp_Mo_answer (200 : Int32) M5 (fun M11 => clrK a K2 M11))) ∧ (v4 = (65 : Int32) → (∃ j17 : Nat, (mz_i M2 (30, 0) 29).toInt = (j17 : Int) ∧ j17 < 2 ∧ ∀ M14 : MzM, M14 = mz_si M1 (51, 0) j17 (1 : Int32) → wp_Mo_answer (200 : Int32) M14 (fun M20 => clrK a K2 M20))))) := by
      have b0 : mz_i M2 (30, 0) 32 = Int32.ofNat (spc (L2 43 0) + 1) := h2.1 30 32 rfl
      rw [b0]
      refine mo_ch h2 ha (by decide) tb (by omega) ?_
      rw [chv_ix (by rw [sl, ← s3]; exact hb), sl, ← s3]
      refine ⟨fun z => ⟨0, s0, by decide, ?_⟩, fun z => ⟨0, s0, by decide, ?_⟩⟩
      · rintro _ rfl
        rcases hv with ⟨rfl, _⟩ | ⟨_, w⟩
        · exact hr _ K2 (h2.si (t := 51) (k := 0) (v := 0) rfl) hk2
        · exact absurd w z
      · rintro _ rfl
        rcases hv with ⟨_, w⟩ | ⟨rfl, _⟩
        · exact absurd z w
        · exact hr _ K2 (h2.si (t := 51) (k := 0) (v := 1) rfl) hk2
    exact ⟨fun _ => go, fun z => absurd z (by decide), fun z => absurd z (by decide), fun z => absurd z (by decide), fun z => absurd z (by decide), fun z => absurd z (by decide), fun n5 n6 n8 n10 n11 n16 => absurd rfl n5⟩
  refine ⟨fun z => absurd z (by decide), fun _ => ⟨4, rfl, by decide, fun z => absurd z (by decide), fun z => absurd z (by decide), fun z => absurd z (by decide), fun z => absurd z (by decide), fun _ => pl_argumentIs (cl := spc (L1 13 0)) h rfl hcl (by decide) (fun q => ⟨Or.inr rfl, step 1 (Or.inr ⟨rfl, ?_⟩)⟩) (fun q => ⟨Or.inl rfl, step 0 (Or.inl ⟨rfl, fun w => q ?_⟩)⟩), fun z => absurd z (by decide), fun z => absurd z (by decide), fun z => absurd z (by decide), fun z => absurd z (by decide), fun z => absurd z (by decide), fun z => absurd z (by decide), fun n1 n2 n3 n4 n5 n6 n7 n8 n9 n10 n11 => absurd rfl n5⟩⟩
  · rw [w0] at q
    exact q.2 0 (by decide)
  · rw [w0]
    rcases hty with z | z
    · exact z
    · have z2 := z.2 0 (by decide)
      have z3 : ix (L1 13 0) (spc (L1 13 0) + 1) = 73 := z2
      rw [z3] at w
      exact absurd w (by decide)
theorem ob_1_3 : obPred 1 3 := by
  intro m1 m2 M L1 L2 fr vd a ss K hE o0 ha hfit hW hD hA hfr hss h hk
  obtain ⟨s1, s2, s3, s4, s5, s6, s7, s8, s9, s10, s11, s12, s13, s14, s15, s16⟩ := hE.2.1
  have hcl := spc_le (L1 13 1)
  have h30 : (L1 13 1).length ≤ 30 := (h.line 1).2.1
  have sl : spc (L2 43 1) = spc (L1 13 1) := by rw [s3]
  refine ⟨fun z => absurd z (by decide), fun _ => ⟨3, rfl, by decide, fun z => absurd z (by decide), fun z => absurd z (by decide), fun z => absurd z (by decide), fun _ => ?_, fun z => absurd z (by decide), fun z => absurd z (by decide), fun z => absurd z (by decide), fun z => absurd z (by decide), fun z => absurd z (by decide), fun z => absurd z (by decide), fun z => absurd z (by decide), fun n1 n2 n3 n4 n5 n6 n7 n8 n9 n10 n11 => absurd rfl n4⟩⟩
  rintro _ rfl
  have ht := h.si (o := (8, 1)) (k := 16) (v := 200) rfl
  refine pl_forget (v := 200) false false false ht rfl (fg_s (by decide)) (fg_2 (by decide)) (fg_2 (by decide)) (fun M9 h9 => ?_)
  have hEE : EE (fgM (mz_si (mz_si (mS m1 1 (spc (L1 13 1)) fr vd) (8, 1) 16 0) (8, 1) 16 200) 1 false false false) (lu L1 15 1 ss) (mz_si (nB m2 1 a) (30, 0) 32 (Int32.ofNat (spc (L2 43 1) + 1))) L2 := ⟨hE.1, ⟨s1, s2, s3, Or.inl ⟨o0, rfl⟩, rfl, s6, s7, Or.inl ⟨rfl, rfl⟩, ⟨rfl, Or.inl rfl⟩, ⟨rfl, 0, by decide, rfl⟩, s11, s12, s13, s14, s15, s16⟩, hE.2.2⟩
  refine fin5_1 (m1 := m1) (m2 := m2) (v := 200) (a := a) hEE ha ha rfl (by decide) (by decide) (by decide) (by decide) ⟨o0, rfl⟩ ⟨fun _ => rfl, rfl, rfl, rfl, rfl, rfl, rfl, rfl, rfl, rfl⟩ rfl h9 (fun M1' hr => hk M1' (fun M2 K2 h2 hk2 => ⟨fun z => absurd z (by decide), fun _ => ⟨fun _ => ⟨fun _ => ⟨fun _ => hr M2 K2 h2 hk2, fun z => absurd z (by decide)⟩, fun z => absurd z (by decide)⟩, fun z => absurd z (by decide)⟩⟩))
theorem ob_1_9 : obPred 1 9 := by
  intro m1 m2 M L1 L2 fr vd a ss K hE o0 ha hfit hW hD hA hfr hss h hk
  obtain ⟨s1, s2, s3, s4, s5, s6, s7, s8, s9, s10, s11, s12, s13, s14, s15, s16⟩ := hE.2.1
  have hcl := spc_le (L1 13 1)
  have h30 : (L1 13 1).length ≤ 30 := (h.line 1).2.1
  have sl : spc (L2 43 1) = spc (L1 13 1) := by rw [s3]
  refine ⟨fun z => absurd z (by decide), fun _ => ⟨9, rfl, by decide, fun z => absurd z (by decide), fun z => absurd z (by decide), fun z => absurd z (by decide), fun z => absurd z (by decide), fun z => absurd z (by decide), fun z => absurd z (by decide), fun z => absurd z (by decide), fun _ => ?_, fun z => absurd z (by decide), fun z => absurd z (by decide), fun z => absurd z (by decide), fun n1 n2 n3 n4 n5 n6 n7 n8 n9 n10 n11 => absurd rfl n8⟩⟩
  rintro _ rfl
  have h3 := h.si (o := (16, 1)) (k := 0) (v := 1) rfl
  rintro _ rfl
  have ht := h3.si (o := (8, 1)) (k := 16) (v := 227) rfl
  refine pl_forget (v := 227) false false false ht rfl (fg_s (by decide)) (fg_2 (by decide)) (fg_2 (by decide)) (fun M9 h9 => ?_)
  have hEE : EE (fgM (mz_si (mz_si (mz_si (mS m1 1 (spc (L1 13 1)) fr vd) (8, 1) 16 0) (16, 1) 0 1) (8, 1) 16 227) 1 false false false) (lu L1 15 1 ss) (mz_si (mz_si (nB m2 1 a) (30, 0) 32 (Int32.ofNat (spc (L2 43 1) + 1))) (52, 0) 1 1) L2 := ⟨hE.1, ⟨s1, s2, s3, Or.inl ⟨o0, rfl⟩, rfl, s6, s7, Or.inl ⟨rfl, rfl⟩, ⟨rfl, Or.inl rfl⟩, ⟨rfl, 0, by decide, rfl⟩, s11, s12, rfl, s14, s15, s16⟩, hE.2.2⟩
  refine fin5_1 (m1 := m1) (m2 := m2) (v := 227) (a := a) hEE ha ha rfl (by decide) (by decide) (by decide) (by decide) ⟨o0, rfl⟩ ⟨fun _ => rfl, rfl, rfl, rfl, rfl, rfl, rfl, rfl, rfl, rfl⟩ rfl h9 (fun M1' hr => hk M1' (fun M2 K2 h2 hk2 => ?_))
  have s0 : (mz_i M2 (30, 0) 29).toInt = ((1 : Nat) : Int) := by rw [h2.1 30 29 rfl]; exact ha
  refine ⟨fun _ => mo_pc (fun z => absurd z (by decide)) (fun _ => ⟨fun _ => ?_, fun z => absurd rfl z⟩), fun z => absurd z (by decide)⟩
  refine ⟨fun z => absurd z (by decide), fun z => absurd z (by decide), fun z => absurd z (by decide), fun _ => ⟨1, s0, by decide, ?_⟩, fun z => absurd z (by decide), fun z => absurd z (by decide), fun n5 n6 n8 n10 n11 n16 => absurd rfl n10⟩
  rintro _ rfl
  exact hr _ K2 (h2.si (t := 52) (k := 1) (v := 1) rfl) hk2
theorem ob_1_10 : obPred 1 10 := by
  intro m1 m2 M L1 L2 fr vd a ss K hE o0 ha hfit hW hD hA hfr hss h hk
  obtain ⟨s1, s2, s3, s4, s5, s6, s7, s8, s9, s10, s11, s12, s13, s14, s15, s16⟩ := hE.2.1
  have hcl := spc_le (L1 13 1)
  have h30 : (L1 13 1).length ≤ 30 := (h.line 1).2.1
  have sl : spc (L2 43 1) = spc (L1 13 1) := by rw [s3]
  obtain ⟨j, hj, hnum⟩ := (hz5 hfit).2.1 rfl
  have hl13 : lu L1 15 1 ss 13 1 = L1 13 1 := rfl
  refine ⟨fun z => absurd z (by decide), fun _ => ⟨10, rfl, by decide, fun z => absurd z (by decide), fun z => absurd z (by decide), fun z => absurd z (by decide), fun z => absurd z (by decide), fun z => absurd z (by decide), fun z => absurd z (by decide), fun z => absurd z (by decide), fun z => absurd z (by decide), fun _ => pl_argumentNumber (cl := spc (L1 13 1)) h rfl hcl (fun k hk9 hn => ?_) (fun hz => absurd hnum (hz j)), fun z => absurd z (by decide), fun z => absurd z (by decide), fun n1 n2 n3 n4 n5 n6 n7 n8 n9 n10 n11 => absurd rfl n9⟩⟩
  have ekj := numP_uniq hn hnum
  subst ekj
  rintro _ rfl
  have h3 := h.si (o := (8, 1)) (k := 11) (v := Int32.ofNat k) rfl
  rintro _ rfl
  have ht := h3.si (o := (8, 1)) (k := 16) (v := 350) rfl
  refine pl_forget (v := 350) false false true ht rfl (fg_s (by decide)) (fg_2 (by decide)) (⟨fun _ => ⟨rfl, rfl⟩, fun _ => rfl⟩) (fun M9 h9 => ?_)
  have hEE : EE (fgM (mz_si (mz_si (mz_si (mS m1 1 (spc (L1 13 1)) fr vd) (8, 1) 16 0) (8, 1) 11 (Int32.ofNat k)) (8, 1) 16 350) 1 false false true) (lu L1 15 1 ss) (mz_si (mz_si (nB m2 1 a) (30, 0) 32 (Int32.ofNat (spc (L2 43 1) + 1))) (49, 0) 1 (Int32.ofNat k)) L2 := ⟨hE.1, ⟨s1, s2, s3, Or.inl ⟨o0, rfl⟩, rfl, s6, s7, Or.inl ⟨rfl, rfl⟩, ⟨rfl, Or.inl rfl⟩, ⟨rfl, k, hj, rfl⟩, s11, s12, s13, s14, s15, s16⟩, hE.2.2⟩
  refine fin5_1 (m1 := m1) (m2 := m2) (v := 350) (a := a) hEE ha ha rfl (by decide) (by decide) (by decide) (by decide) ⟨o0, rfl⟩ ⟨fun _ => rfl, rfl, rfl, rfl, rfl, rfl, rfl, rfl, rfl, rfl⟩ rfl h9 (fun M1' hr => hk M1' (fun M2 K2 h2 hk2 => ?_))
  have s0 : (mz_i M2 (30, 0) 29).toInt = ((1 : Nat) : Int) := by rw [h2.1 30 29 rfl]; exact ha
  refine ⟨fun _ => mo_pc (fun z => absurd z (by decide)) (fun _ => ⟨fun _ => ?_, fun z => absurd rfl z⟩), fun z => absurd z (by decide)⟩
  refine ⟨fun z => absurd z (by decide), fun z => absurd z (by decide), fun z => absurd z (by decide), fun z => absurd z (by decide), fun _ => mo_number (x := 1) (b := spc (L2 43 1) + 1) h2 ha (by decide) rfl (by omega) (fun k' hk' hn' => ⟨1, s0, by decide, ?_⟩) (fun hz => absurd (by rw [sl, ← s3]; exact hnum) (hz k hj)), fun z => absurd z (by decide), fun n5 n6 n8 n10 n11 n16 => absurd rfl n11⟩
  rw [sl, ← s3] at hn'
  have e2 := numP_uniq hn' hnum
  subst e2
  rintro _ rfl
  exact hr _ K2 (h2.si (t := 49) (k := 1) (v := Int32.ofNat k') rfl) hk2
theorem ob_1_4 : obPred 1 4 := by
  intro m1 m2 M L1 L2 fr vd a ss K hE o0 ha hfit hW hD hA hfr hss h hk
  obtain ⟨s1, s2, s3, s4, s5, s6, s7, s8, s9, s10, s11, s12, s13, s14, s15, s16⟩ := hE.2.1
  have hcl := spc_le (L1 13 1)
  have h30 : (L1 13 1).length ≤ 30 := (h.line 1).2.1
  have sl : spc (L2 43 1) = spc (L1 13 1) := by rw [s3]
  have r53 : mz_i m2 (53, 0) 1 = 0 := s14.symm.trans (hD.elim (fun z => absurd rfl z) id)
  have s16' := s16
  rcases s16' with t16 | ⟨t16, _⟩ | ⟨t16, _⟩
  rotate_left
  · exact absurd (r53.symm.trans t16) (by decide)
  · exact absurd (r53.symm.trans t16) (by decide)
  have hty := (hz5 hfit).1 rfl
  have hb : spc (L1 13 1) + 1 < (L1 13 1).length := by
    rcases hty with z | z
    · have := z.1
      simp only [List.length_singleton] at this
      omega
    · have := z.1
      simp only [List.length_singleton] at this
      omega
  have w0 : mzStrB.getD 0 [] = [65] := rfl
  have tb : (Int32.ofNat (spc (L2 43 1) + 1)).toInt = ((spc (L2 43 1) + 1 : Nat) : Int) := itn (by omega)
  have step : ∀ (v : Int32), (v = 0 ∧ ¬ ix (L1 13 1) (spc (L1 13 1) + 1) = 65) ∨ (v = 1 ∧ ix (L1 13 1) (spc (L1 13 1) + 1) = 65) → ∀ M20 : MzM, M20 = mz_si M (8, 1) 8 v → ∀ M129 : MzM, M129 = mz_si M20 (8, 1) 16 200 → tl 1 4 K M129 := by
    intro v hv
    rintro _ rfl
    have h3 := h.si (o := (8, 1)) (k := 8) (v := v) rfl
    rintro _ rfl
    have ht := h3.si (o := (8, 1)) (k := 16) (v := 200) rfl
    refine pl_forget (v := 200) false false false ht rfl (fg_s (by decide)) (fg_2 (by decide)) (fg_2 (by decide)) (fun M9 h9 => ?_)
    have hEE : EE (fgM (mz_si (mz_si (mz_si (mS m1 1 (spc (L1 13 1)) fr vd) (8, 1) 16 0) (8, 1) 8 v) (8, 1) 16 200) 1 false false false) (lu L1 15 1 ss) (mz_si (mz_si (nB m2 1 a) (30, 0) 32 (Int32.ofNat (spc (L2 43 1) + 1))) (51, 0) 1 v) L2 := ⟨hE.1, ⟨s1, s2, s3, Or.inl ⟨o0, rfl⟩, rfl, s6, s7, Or.inl ⟨rfl, rfl⟩, ⟨rfl, Or.inl rfl⟩, ⟨rfl, 0, by decide, rfl⟩, s11, ⟨rfl, hv.elim (fun z => Or.inl z.1) (fun z => Or.inr z.1)⟩, s13, s14, s15, Or.inl t16⟩, hE.2.2⟩
    refine fin5_1 (m1 := m1) (m2 := m2) (v := 200) (a := a) hEE ha ha rfl (by decide) (by decide) (by decide) (by decide) ⟨o0, rfl⟩ ⟨fun _ => rfl, rfl, rfl, rfl, rfl, rfl, rfl, rfl, rfl, rfl⟩ rfl h9 (fun M1' hr => hk M1' (fun M2 K2 h2 hk2 => ?_))
    have s0 : (mz_i M2 (30, 0) 29).toInt = ((1 : Nat) : Int) := by rw [h2.1 30 29 rfl]; exact ha
    refine ⟨fun _ => mo_pc (fun z => absurd z (by decide)) (fun _ => ⟨fun _ => ?_, fun z => absurd rfl z⟩), fun z => absurd z (by decide)⟩
    have go : wp_Mo_ch (mz_i M2 (30, 0) 32) M2 (fun v4 M1 => ((¬ v4 = (65 : Int32) → (∃ j8 : Nat, (mz_i M2 (30, 0) 29).toInt = (j8 : Int) ∧ j8 < 2 ∧ ∀ M5 : MzM, M5 = mz_si M1 (51, 0) j8 (0 : Int32) → wp_Mo_answer (200 : Int32) M5 (fun M11 => clrK a K2 M11))) ∧ (v4 = (65 : Int32) → (∃ j17 : Nat, (mz_i M2 (30, 0) 29).toInt = (j17 : Int) ∧ j17 < 2 ∧ ∀ M14 : MzM, M14 = mz_si M1 (51, 0) j17 (1 : Int32) → wp_Mo_answer (200 : Int32) M14 (fun M20 => clrK a K2 M20))))) := by
      have b0 : mz_i M2 (30, 0) 32 = Int32.ofNat (spc (L2 43 1) + 1) := h2.1 30 32 rfl
      rw [b0]
      refine mo_ch h2 ha (by decide) tb (by omega) ?_
      rw [chv_ix (by rw [sl, ← s3]; exact hb), sl, ← s3]
      refine ⟨fun z => ⟨1, s0, by decide, ?_⟩, fun z => ⟨1, s0, by decide, ?_⟩⟩
      · rintro _ rfl
        rcases hv with ⟨rfl, _⟩ | ⟨_, w⟩
        · exact hr _ K2 (h2.si (t := 51) (k := 1) (v := 0) rfl) hk2
        · exact absurd w z
      · rintro _ rfl
        rcases hv with ⟨_, w⟩ | ⟨rfl, _⟩
        · exact absurd z w
        · exact hr _ K2 (h2.si (t := 51) (k := 1) (v := 1) rfl) hk2
    exact ⟨fun _ => go, fun z => absurd z (by decide), fun z => absurd z (by decide), fun z => absurd z (by decide), fun z => absurd z (by decide), fun z => absurd z (by decide), fun n5 n6 n8 n10 n11 n16 => absurd rfl n5⟩
  refine ⟨fun z => absurd z (by decide), fun _ => ⟨4, rfl, by decide, fun z => absurd z (by decide), fun z => absurd z (by decide), fun z => absurd z (by decide), fun z => absurd z (by decide), fun _ => pl_argumentIs (cl := spc (L1 13 1)) h rfl hcl (by decide) (fun q => ⟨Or.inr rfl, step 1 (Or.inr ⟨rfl, ?_⟩)⟩) (fun q => ⟨Or.inl rfl, step 0 (Or.inl ⟨rfl, fun w => q ?_⟩)⟩), fun z => absurd z (by decide), fun z => absurd z (by decide), fun z => absurd z (by decide), fun z => absurd z (by decide), fun z => absurd z (by decide), fun z => absurd z (by decide), fun n1 n2 n3 n4 n5 n6 n7 n8 n9 n10 n11 => absurd rfl n5⟩⟩
  · rw [w0] at q
    exact q.2 0 (by decide)
  · rw [w0]
    rcases hty with z | z
    · exact z
    · have z2 := z.2 0 (by decide)
      have z3 : ix (L1 13 1) (spc (L1 13 1) + 1) = 73 := z2
      rw [z3] at w
      exact absurd w (by decide)
