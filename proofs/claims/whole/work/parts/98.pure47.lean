theorem ob_0_0 : obPred 0 0 := by
  intro m1 m2 M L1 L2 fr vd a ss K hE o0 ha hfit hW hD hA hfr hss h hk
  obtain ⟨s1, s2, s3, s4, s5, s6, s7, s8, s9, s10, s11, s12, s13, s14, s15, s16⟩ := hE.1
  have hcl := spc_le (L1 13 0)
  have h30 : (L1 13 0).length ≤ 30 := (h.line 0).2.1
  have sl : spc (L2 43 0) = spc (L1 13 0) := by rw [s3]
  have r53 : mz_i m2 (53, 0) 0 = 0 := s14.symm.trans (hD.elim (fun z => absurd rfl z) id)
  have s16' := s16
  rcases s16' with t16 | ⟨t16, _⟩ | ⟨t16, _⟩
  rotate_left
  · exact absurd (r53.symm.trans t16) (by decide)
  · exact absurd (r53.symm.trans t16) (by decide)
  have w2 : mzStrB.getD 2 [] = [97, 100, 109] := rfl
  have w3 : mzStrB.getD 3 [] = [97, 110, 121] := rfl
  have s0 : ∀ M2 : MzM, A2 M2 (mz_si (nB m2 0 a) (30, 0) 32 (Int32.ofNat (spc (L2 43 0) + 1))) L2 → (mz_i M2 (30, 0) 29).toInt = ((0 : Nat) : Int) := fun M2 h2 => by rw [h2.1 30 29 rfl]; exact ha
  -- the reference, over what the word is
  have ref : ∀ (M2 : MzM) (K2 : MzM → Prop) (n : Int32), A2 M2 (mz_si (nB m2 0 a) (30, 0) 32 (Int32.ofNat (spc (L2 43 0) + 1))) L2 → ((n = 1 ∧ aisP (L1 13 0) [97, 110, 121] (spc (L1 13 0) + 1)) ∨ (n = 2 ∧ ¬ aisP (L1 13 0) [97, 110, 121] (spc (L1 13 0) + 1) ∧ aisP (L1 13 0) [97, 100, 109] (spc (L1 13 0) + 1)) ∨ (n = 3 ∧ ¬ aisP (L1 13 0) [97, 110, 121] (spc (L1 13 0) + 1) ∧ ¬ aisP (L1 13 0) [97, 100, 109] (spc (L1 13 0) + 1))) → (∀ M3, A2 M3 (mz_si (mz_si (mz_si (mz_si (nB m2 0 a) (30, 0) 32 (Int32.ofNat (spc (L2 43 0) + 1))) (46, 0) 0 0) (50, 0) 0 (-1)) (47, 0) 0 n) L2 → wp_Mo_answer 331 M3 (clrK a K2)) → wp_Mo_doLine_255 (clrK a K2) (mz_i m2 (47, 0) 0) (mz_i m2 (48, 0) 0) (mz_i m2 (49, 0) 0) (Int32.ofNat (0 + 1)) (eaI 0) M2 := by
    intro M2 K2 n h2 hn hans
    refine ⟨fun z => absurd z (by decide), fun _ => ⟨fun z => absurd rfl z, fun _ => ⟨0, s0 M2 h2, by decide, ?_⟩⟩⟩
    rintro _ rfl
    refine ⟨0, s0 M2 h2, by decide, ?_⟩
    rintro _ rfl
    have h3 := (h2.si (t := 46) (k := 0) (v := 0) rfl).si (t := 50) (k := 0) (v := -1) rfl
    have fin : ∀ n' : Int32, n' = n → ∀ M39 : MzM, M39 = mz_si (mz_si (mz_si M2 (46, 0) 0 0) (50, 0) 0 (-1)) (47, 0) 0 n' → wp_Mo_answer 331 M39 (fun M45 => clrK a K2 M45) := by
      rintro n' rfl _ rfl
      exact hans _ (h3.si (t := 47) (k := 0) (v := n') rfl)
    have lne : ∀ w : List Int32, aisP (L2 43 0) w (spc (L2 43 0) + 1) ↔ aisP (L1 13 0) w (spc (L1 13 0) + 1) := fun w => by rw [s3]
    refine mo_says (x := 0) (b := spc (L2 43 0) + 1) h3 ha (by decide) rfl (by omega) (fun q => ⟨fun z => absurd z (by decide), fun _ => ⟨0, s0 M2 h2, by decide, fin 1 ?_⟩⟩) (fun q => ⟨fun _ => mo_says (x := 0) (b := spc (L2 43 0) + 1) h3 ha (by decide) rfl (by omega) (fun q2 => ⟨fun z => absurd z (by decide), fun _ => ⟨0, s0 M2 h2, by decide, fin 2 ?_⟩⟩) (fun q2 => ⟨fun _ => ⟨0, s0 M2 h2, by decide, fin 3 ?_⟩, fun z => absurd rfl z⟩), fun z => absurd rfl z⟩)
    · rw [lne] at q
      rcases hn with z | z | z
      · exact z.1.symm
      · exact absurd q z.2.1
      · exact absurd q z.2.1
    · rw [lne] at q q2
      rcases hn with z | z | z
      · exact absurd z.2 q
      · exact z.1.symm
      · exact absurd q2 z.2.2
    · rw [lne] at q q2
      rcases hn with z | z | z
      · exact absurd z.2 q
      · exact absurd z.2.2 q2
      · exact z.1.symm
  have both : aisP (L1 13 0) [97, 110, 121] (spc (L1 13 0) + 1) → ¬ aisP (L1 13 0) [97, 100, 109] (spc (L1 13 0) + 1) := by
    intro z w
    have z1 := z.2 1 (by decide)
    have w1 := w.2 1 (by decide)
    rw [z1] at w1
    exact absurd w1 (by decide)
  refine ⟨fun z => absurd z (by decide), fun _ => ⟨0, rfl, by decide, fun _ => pl_logOut h (by decide) s1 (fun M1 h1 => ?_), fun z => absurd z (by decide), fun z => absurd z (by decide), fun z => absurd z (by decide), fun z => absurd z (by decide), fun z => absurd z (by decide), fun z => absurd z (by decide), fun z => absurd z (by decide), fun z => absurd z (by decide), fun z => absurd z (by decide), fun z => absurd z (by decide), fun n1 n2 n3 n4 n5 n6 n7 n8 n9 n10 n11 => absurd rfl n1⟩⟩
  rintro _ rfl
  have h2 := h1.si (o := (8, 0)) (k := 9) (v := 3) rfl
  refine pl_argumentIs (cl := spc (L1 13 0)) h2 rfl hcl (by decide) (fun q => ⟨fun z => absurd z (by decide), fun _ => ?_⟩) (fun q => ⟨fun _ => ?_, fun z => absurd rfl z⟩)
  · rw [w2] at q
    rintro _ rfl
    have h3 := h2.si (o := (8, 0)) (k := 9) (v := 1) rfl
    refine pl_argumentIs (cl := spc (L1 13 0)) h3 rfl hcl (by decide) (fun q2 => absurd q (both (by rw [w3] at q2; exact q2))) (fun q2 => ⟨fun _ => ?_, fun z => absurd rfl z⟩)
    rw [w3] at q2
    rintro _ rfl
    have ht := h3.si (o := (8, 0)) (k := 16) (v := 331) rfl
    refine pl_forget (v := 331) true false false ht rfl (⟨fun _ => rfl, fun _ => rfl⟩) (fg_2 (by decide)) (fg_2 (by decide)) (fun M9 h9 => ?_)
    have hEE : EE (fgM (mz_si (mz_si (mz_si (mz_si (mz_si (mz_si (mS m1 0 (spc (L1 13 0)) fr vd) (8, 0) 16 0) (8, 0) 7 0) (6, 0) 0 (-1)) (8, 0) 9 3) (8, 0) 9 1) (8, 0) 16 331) 0 true false false) (lu L1 15 0 ss) (mz_si (mz_si (mz_si (mz_si (nB m2 0 a) (30, 0) 32 (Int32.ofNat (spc (L2 43 0) + 1))) (46, 0) 0 0) (50, 0) 0 (-1)) (47, 0) 0 2) L2 := ⟨⟨s1, s2, s3, Or.inl ⟨o0, rfl⟩, rfl, s6, Or.inl ⟨rfl, rfl⟩, Or.inr (Or.inr (Or.inl ⟨rfl, rfl⟩)), ⟨rfl, Or.inl rfl⟩, ⟨rfl, 0, by decide, rfl⟩, ⟨rfl, Or.inl ⟨rfl, rfl⟩⟩, s12, s13, s14, s15, Or.inl t16⟩, hE.2.1, hE.2.2⟩
    refine fin5_0 (m1 := m1) (m2 := m2) (v := 331) (a := a) hEE ha ha rfl (by decide) (by decide) (by decide) (by decide) ⟨o0, rfl⟩ ⟨fun _ => rfl, rfl, rfl, rfl, rfl, rfl, rfl, rfl, rfl, rfl⟩ rfl h9 (fun M1' hr => hk M1' (fun M2 K2 h2 hk2 => ref M2 K2 2 h2 (Or.inr (Or.inl ⟨rfl, q2, q⟩)) (fun M3 h3' => hr M3 K2 h3' hk2)))
  · rw [w2] at q
    refine pl_argumentIs (cl := spc (L1 13 0)) h2 rfl hcl (by decide) (fun q2 => ⟨fun z => absurd z (by decide), fun _ => ?_⟩) (fun q2 => ⟨fun _ => ?_, fun z => absurd rfl z⟩)
    · rw [w3] at q2
      rintro _ rfl
      have h3 := h2.si (o := (8, 0)) (k := 9) (v := 2) rfl
      rintro _ rfl
      have ht := h3.si (o := (8, 0)) (k := 16) (v := 331) rfl
      refine pl_forget (v := 331) true false false ht rfl (⟨fun _ => rfl, fun _ => rfl⟩) (fg_2 (by decide)) (fg_2 (by decide)) (fun M9 h9 => ?_)
      have hEE : EE (fgM (mz_si (mz_si (mz_si (mz_si (mz_si (mz_si (mS m1 0 (spc (L1 13 0)) fr vd) (8, 0) 16 0) (8, 0) 7 0) (6, 0) 0 (-1)) (8, 0) 9 3) (8, 0) 9 2) (8, 0) 16 331) 0 true false false) (lu L1 15 0 ss) (mz_si (mz_si (mz_si (mz_si (nB m2 0 a) (30, 0) 32 (Int32.ofNat (spc (L2 43 0) + 1))) (46, 0) 0 0) (50, 0) 0 (-1)) (47, 0) 0 1) L2 := ⟨⟨s1, s2, s3, Or.inl ⟨o0, rfl⟩, rfl, s6, Or.inl ⟨rfl, rfl⟩, Or.inr (Or.inl ⟨rfl, rfl⟩), ⟨rfl, Or.inl rfl⟩, ⟨rfl, 0, by decide, rfl⟩, ⟨rfl, Or.inl ⟨rfl, rfl⟩⟩, s12, s13, s14, s15, Or.inl t16⟩, hE.2.1, hE.2.2⟩
      refine fin5_0 (m1 := m1) (m2 := m2) (v := 331) (a := a) hEE ha ha rfl (by decide) (by decide) (by decide) (by decide) ⟨o0, rfl⟩ ⟨fun _ => rfl, rfl, rfl, rfl, rfl, rfl, rfl, rfl, rfl, rfl⟩ rfl h9 (fun M1' hr => hk M1' (fun M2 K2 h2 hk2 => ref M2 K2 1 h2 (Or.inl ⟨rfl, q2⟩) (fun M3 h3' => hr M3 K2 h3' hk2)))
    · rw [w3] at q2
      rintro _ rfl
      have ht := h2.si (o := (8, 0)) (k := 16) (v := 331) rfl
      refine pl_forget (v := 331) true false false ht rfl (⟨fun _ => rfl, fun _ => rfl⟩) (fg_2 (by decide)) (fg_2 (by decide)) (fun M9 h9 => ?_)
      have hEE : EE (fgM (mz_si (mz_si (mz_si (mz_si (mz_si (mS m1 0 (spc (L1 13 0)) fr vd) (8, 0) 16 0) (8, 0) 7 0) (6, 0) 0 (-1)) (8, 0) 9 3) (8, 0) 16 331) 0 true false false) (lu L1 15 0 ss) (mz_si (mz_si (mz_si (mz_si (nB m2 0 a) (30, 0) 32 (Int32.ofNat (spc (L2 43 0) + 1))) (46, 0) 0 0) (50, 0) 0 (-1)) (47, 0) 0 3) L2 := ⟨⟨s1, s2, s3, Or.inl ⟨o0, rfl⟩, rfl, s6, Or.inl ⟨rfl, rfl⟩, Or.inr (Or.inr (Or.inr ⟨rfl, rfl⟩)), ⟨rfl, Or.inl rfl⟩, ⟨rfl, 0, by decide, rfl⟩, ⟨rfl, Or.inl ⟨rfl, rfl⟩⟩, s12, s13, s14, s15, Or.inl t16⟩, hE.2.1, hE.2.2⟩
      refine fin5_0 (m1 := m1) (m2 := m2) (v := 331) (a := a) hEE ha ha rfl (by decide) (by decide) (by decide) (by decide) ⟨o0, rfl⟩ ⟨fun _ => rfl, rfl, rfl, rfl, rfl, rfl, rfl, rfl, rfl, rfl⟩ rfl h9 (fun M1' hr => hk M1' (fun M2 K2 h2 hk2 => ref M2 K2 3 h2 (Or.inr (Or.inr ⟨rfl, q2, q⟩)) (fun M3 h3' => hr M3 K2 h3' hk2)))
theorem ob_0_1 : obPred 0 1 := by
  intro m1 m2 M L1 L2 fr vd a ss K hE o0 ha hfit hW hD hA hfr hss h hk
  obtain ⟨s1, s2, s3, s4, s5, s6, s7, s8, s9, s10, s11, s12, s13, s14, s15, s16⟩ := hE.1
  have hcl := spc_le (L1 13 0)
  have h30 : (L1 13 0).length ≤ 30 := (h.line 0).2.1
  have sl : spc (L2 43 0) = spc (L1 13 0) := by rw [s3]
  have r53 : mz_i m2 (53, 0) 0 = 0 := s14.symm.trans (hD.elim (fun z => absurd rfl z) id)
  have s16' := s16
  rcases s16' with t16 | ⟨t16, _⟩ | ⟨t16, _⟩
  rotate_left
  · exact absurd (r53.symm.trans t16) (by decide)
  · exact absurd (r53.symm.trans t16) (by decide)
  have w4 : mzStrB.getD 4 [] = [107, 101, 121] := rfl
  have s0 : ∀ M2 : MzM, A2 M2 (mz_si (nB m2 0 a) (30, 0) 32 (Int32.ofNat (spc (L2 43 0) + 1))) L2 → (mz_i M2 (30, 0) 29).toInt = ((0 : Nat) : Int) := fun M2 h2 => by rw [h2.1 30 29 rfl]; exact ha
  have lne : ∀ w : List Int32, aisP (L2 43 0) w (spc (L2 43 0) + 1) ↔ aisP (L1 13 0) w (spc (L1 13 0) + 1) := fun w => by rw [s3]
  have e9 : mz_i M (8, 0) 9 = mz_i m1 (8, 0) 9 := h.1 (8, 0) 9 rfl
  -- a refused key
  have no : ∀ v : Int32, (v = 503 ∨ v = 530) → (∀ (M2 : MzM) (K2 : MzM → Prop), A2 M2 (mz_si (nB m2 0 a) (30, 0) 32 (Int32.ofNat (spc (L2 43 0) + 1))) L2 → wp_Mo_answer v M2 (clrK a K2) → wp_Mo_doLine_255 (clrK a K2) (mz_i m2 (47, 0) 0) (mz_i m2 (48, 0) 0) (mz_i m2 (49, 0) 0) (Int32.ofNat (1 + 1)) (eaI 1) M2) → ∀ M129 : MzM, M129 = mz_si M (8, 0) 16 v → tl 0 1 K M129 := by
    rintro v (rfl | rfl) hr'
    · skip
      rintro _ rfl
      have ht := h.si (o := (8, 0)) (k := 16) (v := 503) rfl
      refine pl_forget (v := 503) false false false ht rfl (fg_s (by decide)) (fg_2 (by decide)) (fg_2 (by decide)) (fun M9 h9 => ?_)
      have hEE : EE (fgM (mz_si (mz_si (mS m1 0 (spc (L1 13 0)) fr vd) (8, 0) 16 0) (8, 0) 16 503) 0 false false false) (lu L1 15 0 ss) (mz_si (nB m2 0 a) (30, 0) 32 (Int32.ofNat (spc (L2 43 0) + 1))) L2 := ⟨⟨s1, s2, s3, Or.inl ⟨o0, rfl⟩, rfl, s6, s7, Or.inl ⟨rfl, rfl⟩, ⟨rfl, Or.inl rfl⟩, ⟨rfl, 0, by decide, rfl⟩, s11, s12, s13, s14, s15, s16⟩, hE.2.1, hE.2.2⟩
      refine fin5_0 (m1 := m1) (m2 := m2) (v := 503) (a := a) hEE ha ha rfl (by decide) (by decide) (by decide) (by decide) ⟨o0, rfl⟩ ⟨fun _ => rfl, rfl, rfl, rfl, rfl, rfl, rfl, rfl, rfl, rfl⟩ rfl h9 (fun M1' hr => hk M1' (fun M2 K2 h2 hk2 => hr' M2 K2 h2 (hr M2 K2 h2 hk2)))
    · skip
      rintro _ rfl
      have ht := h.si (o := (8, 0)) (k := 16) (v := 530) rfl
      refine pl_forget (v := 530) false false false ht rfl (fg_s (by decide)) (fg_2 (by decide)) (fg_2 (by decide)) (fun M9 h9 => ?_)
      have hEE : EE (fgM (mz_si (mz_si (mS m1 0 (spc (L1 13 0)) fr vd) (8, 0) 16 0) (8, 0) 16 530) 0 false false false) (lu L1 15 0 ss) (mz_si (nB m2 0 a) (30, 0) 32 (Int32.ofNat (spc (L2 43 0) + 1))) L2 := ⟨⟨s1, s2, s3, Or.inl ⟨o0, rfl⟩, rfl, s6, s7, Or.inl ⟨rfl, rfl⟩, ⟨rfl, Or.inl rfl⟩, ⟨rfl, 0, by decide, rfl⟩, s11, s12, s13, s14, s15, s16⟩, hE.2.1, hE.2.2⟩
      refine fin5_0 (m1 := m1) (m2 := m2) (v := 530) (a := a) hEE ha ha rfl (by decide) (by decide) (by decide) (by decide) ⟨o0, rfl⟩ ⟨fun _ => rfl, rfl, rfl, rfl, rfl, rfl, rfl, rfl, rfl, rfl⟩ rfl h9 (fun M1' hr => hk M1' (fun M2 K2 h2 hk2 => hr' M2 K2 h2 (hr M2 K2 h2 hk2)))
  have yes : ∀ u w : Int32, ((w = 1 ∧ u = 2) ∨ (w = 2 ∧ u = 1)) → mz_i m1 (8, 0) 9 = u → (∀ (M2 : MzM) (K2 : MzM → Prop), A2 M2 (mz_si (nB m2 0 a) (30, 0) 32 (Int32.ofNat (spc (L2 43 0) + 1))) L2 → (∀ M3, A2 M3 (mz_si (mz_si (mz_si (mz_si (nB m2 0 a) (30, 0) 32 (Int32.ofNat (spc (L2 43 0) + 1))) (46, 0) 0 w) (50, 0) 0 0) (51, 0) 0 0) L2 → wp_Mo_answer 230 M3 (clrK a K2)) → wp_Mo_doLine_255 (clrK a K2) (mz_i m2 (47, 0) 0) (mz_i m2 (48, 0) 0) (mz_i m2 (49, 0) 0) (Int32.ofNat (1 + 1)) (eaI 1) M2) → wp_Ses_logIn_44 0 (fun v M125 => ∀ M129 : MzM, M129 = mz_si M125 (8, 0) 16 v → tl 0 1 K M129) M := by
    intro u w huw hu hr'
    have eu : mz_i M (8, 0) 9 = u := e9.trans hu
    unfold wp_Ses_logIn_44
    rw [eu]
    rintro _ rfl
    have h3 := h.si (o := (8, 0)) (k := 7) (v := u) rfl
    have tx : (mz_i (mz_si M (8, 0) 7 u) (8, 0) 0).toInt = ((0 : Nat) : Int) := by
      rw [h3.1 (8, 0) 0 rfl, show mz_i (mz_si (mz_si (mS m1 0 (spc (L1 13 0)) fr vd) (8, 0) 16 0) (8, 0) 7 u) (8, 0) 0 = Int32.ofNat 0 from s1]
      rfl
    refine ⟨0, tx, by decide, ?_⟩
    rintro _ rfl _ rfl
    have h4 := h3.si (o := (6, 0)) (k := 0) (v := 0) rfl
    have h5 := h4.si (o := (8, 0)) (k := 8) (v := 0) rfl
    have hwho : whoE u w := by
      rcases huw with ⟨rfl, rfl⟩ | ⟨rfl, rfl⟩
      · exact Or.inr (Or.inl ⟨rfl, rfl⟩)
      · exact Or.inr (Or.inr ⟨rfl, rfl⟩)
    have hw0 : ¬ w = 0 := by
      rcases huw with ⟨rfl, rfl⟩ | ⟨rfl, rfl⟩ <;> decide
    rintro _ rfl
    have ht := h5.si (o := (8, 0)) (k := 16) (v := 230) rfl
    refine pl_forget (v := 230) false false false ht rfl (fg_s (by decide)) (fg_2 (by decide)) (fg_2 (by decide)) (fun M9 h9 => ?_)
    have hEE : EE (fgM (mz_si (mz_si (mz_si (mz_si (mz_si (mS m1 0 (spc (L1 13 0)) fr vd) (8, 0) 16 0) (8, 0) 7 u) (6, 0) 0 0) (8, 0) 8 0) (8, 0) 16 230) 0 false false false) (lu L1 15 0 ss) (mz_si (mz_si (mz_si (mz_si (nB m2 0 a) (30, 0) 32 (Int32.ofNat (spc (L2 43 0) + 1))) (46, 0) 0 w) (50, 0) 0 0) (51, 0) 0 0) L2 := ⟨⟨s1, s2, s3, Or.inl ⟨o0, rfl⟩, rfl, s6, hwho, Or.inl ⟨rfl, rfl⟩, ⟨rfl, Or.inl rfl⟩, ⟨rfl, 0, by decide, rfl⟩, ⟨rfl, Or.inr ⟨hw0, 0, hE.2.2.2.2.1.1, rfl⟩⟩, ⟨rfl, Or.inl rfl⟩, s13, s14, s15, Or.inl t16⟩, hE.2.1, hE.2.2⟩
    refine fin5_0 (m1 := m1) (m2 := m2) (v := 230) (a := a) hEE ha ha rfl (by decide) (by decide) (by decide) (by decide) ⟨o0, rfl⟩ ⟨fun _ => rfl, rfl, rfl, rfl, rfl, rfl, rfl, rfl, rfl, rfl⟩ rfl h9 (fun M1' hr => hk M1' (fun M2 K2 h2 hk2 => hr' M2 K2 h2 (fun M3 h3' => hr M3 K2 h3' hk2)))
  -- the reference's part for a name and a key
  have t112g : ∀ (M2 : MzM) (K2 : MzM → Prop) (w : Int32), ¬ w = 0 → A2 M2 (mz_si (nB m2 0 a) (30, 0) 32 (Int32.ofNat (spc (L2 43 0) + 1))) L2 → (∀ M3, A2 M3 (mz_si (mz_si (mz_si (mz_si (nB m2 0 a) (30, 0) 32 (Int32.ofNat (spc (L2 43 0) + 1))) (46, 0) 0 w) (50, 0) 0 0) (51, 0) 0 0) L2 → wp_Mo_answer 230 M3 (clrK a K2)) → wp_Mo_doEarly_107 (clrK a K2) w M2 := by
    intro M2 K2 w hw0 h2 hans
    refine ⟨fun z => absurd z (by decide), fun _ => ⟨0, s0 M2 h2, by decide, ?_⟩⟩
    rintro _ rfl
    refine ⟨0, s0 M2 h2, by decide, ?_⟩
    rintro _ rfl
    refine ⟨0, s0 M2 h2, by decide, ?_⟩
    rintro _ rfl
    have h3 := ((h2.si (t := 46) (k := 0) (v := w) rfl).si (t := 50) (k := 0) (v := 0) rfl).si (t := 51) (k := 0) (v := 0) rfl
    exact ⟨fun _ => ⟨fun z => absurd z (by decide), fun _ => hans _ h3⟩, fun z => absurd z hw0⟩
  have t111 : ∀ (M2 : MzM) (K2 : MzM → Prop) (w : Int32), (w = 0 → wp_Mo_answer 503 M2 (clrK a K2)) → (¬ w = 0 → wp_Mo_answer 530 M2 (clrK a K2)) → wp_Mo_doEarly_111 (clrK a K2) w M2 := by
    intro M2 K2 w k1 k2
    exact ⟨fun _ => ⟨fun z => ⟨fun _ => k2 z, fun z => absurd rfl z⟩, k1⟩, fun z => absurd rfl z⟩
  have early : ∀ (M2 : MzM) (K2 : MzM → Prop), ((mz_i m2 (47, 0) 0 = 1 → wp_Mo_doEarly_107 (clrK a K2) (mz_i m2 (47, 0) 0) M2) ∧ (¬ mz_i m2 (47, 0) 0 = 1 → ((¬ mz_i m2 (47, 0) 0 = 2 → wp_Mo_doEarly_111 (clrK a K2) (mz_i m2 (47, 0) 0) M2) ∧ (mz_i m2 (47, 0) 0 = 2 → wp_Mo_says 107 101 121 M2 (fun v14 M11 => ((v14 = 0 → wp_Mo_doEarly_111 (clrK a K2) (mz_i m2 (47, 0) 0) M11) ∧ (¬ v14 = 0 → wp_Mo_doEarly_107 (clrK a K2) (mz_i m2 (47, 0) 0) M11))))))) → wp_Mo_doLine_255 (clrK a K2) (mz_i m2 (47, 0) 0) (mz_i m2 (48, 0) 0) (mz_i m2 (49, 0) 0) (Int32.ofNat (1 + 1)) (eaI 1) M2 := by
    intro M2 K2 g
    exact ⟨fun z => absurd z (by decide), fun _ => ⟨fun _ => ⟨fun z => absurd rfl z, fun _ => g⟩, fun z => absurd z (by decide)⟩⟩
  refine ⟨fun z => absurd z (by decide), fun _ => ⟨1, rfl, by decide, fun z => absurd z (by decide), fun _ => ?_, fun z => absurd z (by decide), fun z => absurd z (by decide), fun z => absurd z (by decide), fun z => absurd z (by decide), fun z => absurd z (by decide), fun z => absurd z (by decide), fun z => absurd z (by decide), fun z => absurd z (by decide), fun z => absurd z (by decide), fun n1 n2 n3 n4 n5 n6 n7 n8 n9 n10 n11 => absurd rfl n2⟩⟩
  unfold wp_Ses_logIn
  rw [e9]
  rcases s8 with ⟨q2, q1⟩ | ⟨q2, q1⟩ | ⟨q2, q1⟩ | ⟨q2, q1⟩
  · rw [q1]
    refine ⟨fun z => absurd rfl z, fun _ => no 503 (Or.inl rfl) (fun M2 K2 h2 hans => early M2 K2 ?_)⟩
    rw [q2]
    exact ⟨fun z => absurd z (by decide), fun _ => ⟨fun _ => t111 M2 K2 0 (fun _ => hans) (fun z => absurd rfl z), fun z => absurd z (by decide)⟩⟩
  · rw [q1]
    refine ⟨fun _ => ⟨fun z => absurd z (by decide), fun _ => ⟨fun _ => yes 2 1 (Or.inl ⟨rfl, rfl⟩) q1 (fun M2 K2 h2 hans => early M2 K2 ?_), fun z => absurd z (by decide)⟩⟩, fun z => absurd z (by decide)⟩
    rw [q2]
    exact ⟨fun _ => t112g M2 K2 1 (by decide) h2 hans, fun z => absurd rfl z⟩
  · rw [q1]
    refine ⟨fun _ => ⟨fun z => absurd z (by decide), fun _ => ⟨fun z => absurd rfl z, fun _ => pl_argumentIs (cl := spc (L1 13 0)) h rfl hcl (by decide) (fun q => ⟨fun _ => yes 1 2 (Or.inr ⟨rfl, rfl⟩) q1 (fun M2 K2 h2 hans => early M2 K2 ?_), fun z => absurd z (by decide)⟩) (fun q => ⟨fun z => absurd rfl z, fun _ => no 530 (Or.inr rfl) (fun M2 K2 h2 hans => early M2 K2 ?_)⟩)⟩⟩, fun z => absurd z (by decide)⟩
    · rw [q2]
      rw [w4] at q
      exact ⟨fun z => absurd z (by decide), fun _ => ⟨fun z => absurd rfl z, fun _ => mo_says (x := 0) (b := spc (L2 43 0) + 1) h2 ha (by decide) rfl (by omega) (fun _ => ⟨fun z => absurd z (by decide), fun _ => t112g M2 K2 2 (by decide) h2 hans⟩) (fun w => absurd ((lne _).mpr q) w)⟩⟩
    · rw [q2]
      rw [w4] at q
      exact ⟨fun z => absurd z (by decide), fun _ => ⟨fun z => absurd rfl z, fun _ => mo_says (x := 0) (b := spc (L2 43 0) + 1) h2 ha (by decide) rfl (by omega) (fun w => absurd ((lne _).mp w) q) (fun _ => ⟨fun _ => t111 M2 K2 2 (fun z => absurd z (by decide)) (fun _ => hans), fun z => absurd rfl z⟩)⟩⟩
  · rw [q1]
    refine ⟨fun _ => ⟨fun _ => no 530 (Or.inr rfl) (fun M2 K2 h2 hans => early M2 K2 ?_), fun z => absurd rfl z⟩, fun z => absurd z (by decide)⟩
    rw [q2]
    exact ⟨fun z => absurd z (by decide), fun _ => ⟨fun _ => t111 M2 K2 3 (fun z => absurd z (by decide)) (fun _ => hans), fun z => absurd z (by decide)⟩⟩
theorem ob_1_0 : obPred 1 0 := by
  intro m1 m2 M L1 L2 fr vd a ss K hE o0 ha hfit hW hD hA hfr hss h hk
  obtain ⟨s1, s2, s3, s4, s5, s6, s7, s8, s9, s10, s11, s12, s13, s14, s15, s16⟩ := hE.2.1
  have hcl := spc_le (L1 13 1)
  have h30 : (L1 13 1).length ≤ 30 := (h.line 1).2.1
  have sl : spc (L2 43 1) = spc (L1 13 1) := by rw [s3]
  have r53 : mz_i m2 (53, 0) 1 = 0 := s14.symm.trans (hD.elim (fun z => absurd rfl z) id)
  have s16' := s16
  rcases s16' with t16 | ⟨t16, _⟩ | ⟨t16, _⟩
  rotate_left
  · exact absurd (r53.symm.trans t16) (by decide)
  · exact absurd (r53.symm.trans t16) (by decide)
  have w2 : mzStrB.getD 2 [] = [97, 100, 109] := rfl
  have w3 : mzStrB.getD 3 [] = [97, 110, 121] := rfl
  have s0 : ∀ M2 : MzM, A2 M2 (mz_si (nB m2 1 a) (30, 0) 32 (Int32.ofNat (spc (L2 43 1) + 1))) L2 → (mz_i M2 (30, 0) 29).toInt = ((1 : Nat) : Int) := fun M2 h2 => by rw [h2.1 30 29 rfl]; exact ha
  -- the reference, over what the word is
  have ref : ∀ (M2 : MzM) (K2 : MzM → Prop) (n : Int32), A2 M2 (mz_si (nB m2 1 a) (30, 0) 32 (Int32.ofNat (spc (L2 43 1) + 1))) L2 → ((n = 1 ∧ aisP (L1 13 1) [97, 110, 121] (spc (L1 13 1) + 1)) ∨ (n = 2 ∧ ¬ aisP (L1 13 1) [97, 110, 121] (spc (L1 13 1) + 1) ∧ aisP (L1 13 1) [97, 100, 109] (spc (L1 13 1) + 1)) ∨ (n = 3 ∧ ¬ aisP (L1 13 1) [97, 110, 121] (spc (L1 13 1) + 1) ∧ ¬ aisP (L1 13 1) [97, 100, 109] (spc (L1 13 1) + 1))) → (∀ M3, A2 M3 (mz_si (mz_si (mz_si (mz_si (nB m2 1 a) (30, 0) 32 (Int32.ofNat (spc (L2 43 1) + 1))) (46, 0) 1 0) (50, 0) 1 (-1)) (47, 0) 1 n) L2 → wp_Mo_answer 331 M3 (clrK a K2)) → wp_Mo_doLine_255 (clrK a K2) (mz_i m2 (47, 0) 1) (mz_i m2 (48, 0) 1) (mz_i m2 (49, 0) 1) (Int32.ofNat (0 + 1)) (eaI 0) M2 := by
    intro M2 K2 n h2 hn hans
    refine ⟨fun z => absurd z (by decide), fun _ => ⟨fun z => absurd rfl z, fun _ => ⟨1, s0 M2 h2, by decide, ?_⟩⟩⟩
    rintro _ rfl
    refine ⟨1, s0 M2 h2, by decide, ?_⟩
    rintro _ rfl
    have h3 := (h2.si (t := 46) (k := 1) (v := 0) rfl).si (t := 50) (k := 1) (v := -1) rfl
    have fin : ∀ n' : Int32, n' = n → ∀ M39 : MzM, M39 = mz_si (mz_si (mz_si M2 (46, 0) 1 0) (50, 0) 1 (-1)) (47, 0) 1 n' → wp_Mo_answer 331 M39 (fun M45 => clrK a K2 M45) := by
      rintro n' rfl _ rfl
      exact hans _ (h3.si (t := 47) (k := 1) (v := n') rfl)
    have lne : ∀ w : List Int32, aisP (L2 43 1) w (spc (L2 43 1) + 1) ↔ aisP (L1 13 1) w (spc (L1 13 1) + 1) := fun w => by rw [s3]
    refine mo_says (x := 1) (b := spc (L2 43 1) + 1) h3 ha (by decide) rfl (by omega) (fun q => ⟨fun z => absurd z (by decide), fun _ => ⟨1, s0 M2 h2, by decide, fin 1 ?_⟩⟩) (fun q => ⟨fun _ => mo_says (x := 1) (b := spc (L2 43 1) + 1) h3 ha (by decide) rfl (by omega) (fun q2 => ⟨fun z => absurd z (by decide), fun _ => ⟨1, s0 M2 h2, by decide, fin 2 ?_⟩⟩) (fun q2 => ⟨fun _ => ⟨1, s0 M2 h2, by decide, fin 3 ?_⟩, fun z => absurd rfl z⟩), fun z => absurd rfl z⟩)
    · rw [lne] at q
      rcases hn with z | z | z
      · exact z.1.symm
      · exact absurd q z.2.1
      · exact absurd q z.2.1
    · rw [lne] at q q2
      rcases hn with z | z | z
      · exact absurd z.2 q
      · exact z.1.symm
      · exact absurd q2 z.2.2
    · rw [lne] at q q2
      rcases hn with z | z | z
      · exact absurd z.2 q
      · exact absurd z.2.2 q2
      · exact z.1.symm
  have both : aisP (L1 13 1) [97, 110, 121] (spc (L1 13 1) + 1) → ¬ aisP (L1 13 1) [97, 100, 109] (spc (L1 13 1) + 1) := by
    intro z w
    have z1 := z.2 1 (by decide)
    have w1 := w.2 1 (by decide)
    rw [z1] at w1
    exact absurd w1 (by decide)
  refine ⟨fun z => absurd z (by decide), fun _ => ⟨0, rfl, by decide, fun _ => pl_logOut h (by decide) s1 (fun M1 h1 => ?_), fun z => absurd z (by decide), fun z => absurd z (by decide), fun z => absurd z (by decide), fun z => absurd z (by decide), fun z => absurd z (by decide), fun z => absurd z (by decide), fun z => absurd z (by decide), fun z => absurd z (by decide), fun z => absurd z (by decide), fun z => absurd z (by decide), fun n1 n2 n3 n4 n5 n6 n7 n8 n9 n10 n11 => absurd rfl n1⟩⟩
  rintro _ rfl
  have h2 := h1.si (o := (8, 1)) (k := 9) (v := 3) rfl
  refine pl_argumentIs (cl := spc (L1 13 1)) h2 rfl hcl (by decide) (fun q => ⟨fun z => absurd z (by decide), fun _ => ?_⟩) (fun q => ⟨fun _ => ?_, fun z => absurd rfl z⟩)
  · rw [w2] at q
    rintro _ rfl
    have h3 := h2.si (o := (8, 1)) (k := 9) (v := 1) rfl
    refine pl_argumentIs (cl := spc (L1 13 1)) h3 rfl hcl (by decide) (fun q2 => absurd q (both (by rw [w3] at q2; exact q2))) (fun q2 => ⟨fun _ => ?_, fun z => absurd rfl z⟩)
    rw [w3] at q2
    rintro _ rfl
    have ht := h3.si (o := (8, 1)) (k := 16) (v := 331) rfl
    refine pl_forget (v := 331) true false false ht rfl (⟨fun _ => rfl, fun _ => rfl⟩) (fg_2 (by decide)) (fg_2 (by decide)) (fun M9 h9 => ?_)
    have hEE : EE (fgM (mz_si (mz_si (mz_si (mz_si (mz_si (mz_si (mS m1 1 (spc (L1 13 1)) fr vd) (8, 1) 16 0) (8, 1) 7 0) (6, 0) 1 (-1)) (8, 1) 9 3) (8, 1) 9 1) (8, 1) 16 331) 1 true false false) (lu L1 15 1 ss) (mz_si (mz_si (mz_si (mz_si (nB m2 1 a) (30, 0) 32 (Int32.ofNat (spc (L2 43 1) + 1))) (46, 0) 1 0) (50, 0) 1 (-1)) (47, 0) 1 2) L2 := ⟨hE.1, ⟨s1, s2, s3, Or.inl ⟨o0, rfl⟩, rfl, s6, Or.inl ⟨rfl, rfl⟩, Or.inr (Or.inr (Or.inl ⟨rfl, rfl⟩)), ⟨rfl, Or.inl rfl⟩, ⟨rfl, 0, by decide, rfl⟩, ⟨rfl, Or.inl ⟨rfl, rfl⟩⟩, s12, s13, s14, s15, Or.inl t16⟩, hE.2.2⟩
    refine fin5_1 (m1 := m1) (m2 := m2) (v := 331) (a := a) hEE ha ha rfl (by decide) (by decide) (by decide) (by decide) ⟨o0, rfl⟩ ⟨fun _ => rfl, rfl, rfl, rfl, rfl, rfl, rfl, rfl, rfl, rfl⟩ rfl h9 (fun M1' hr => hk M1' (fun M2 K2 h2 hk2 => ref M2 K2 2 h2 (Or.inr (Or.inl ⟨rfl, q2, q⟩)) (fun M3 h3' => hr M3 K2 h3' hk2)))
  · rw [w2] at q
    refine pl_argumentIs (cl := spc (L1 13 1)) h2 rfl hcl (by decide) (fun q2 => ⟨fun z => absurd z (by decide), fun _ => ?_⟩) (fun q2 => ⟨fun _ => ?_, fun z => absurd rfl z⟩)
    · rw [w3] at q2
      rintro _ rfl
      have h3 := h2.si (o := (8, 1)) (k := 9) (v := 2) rfl
      rintro _ rfl
      have ht := h3.si (o := (8, 1)) (k := 16) (v := 331) rfl
      refine pl_forget (v := 331) true false false ht rfl (⟨fun _ => rfl, fun _ => rfl⟩) (fg_2 (by decide)) (fg_2 (by decide)) (fun M9 h9 => ?_)
      have hEE : EE (fgM (mz_si (mz_si (mz_si (mz_si (mz_si (mz_si (mS m1 1 (spc (L1 13 1)) fr vd) (8, 1) 16 0) (8, 1) 7 0) (6, 0) 1 (-1)) (8, 1) 9 3) (8, 1) 9 2) (8, 1) 16 331) 1 true false false) (lu L1 15 1 ss) (mz_si (mz_si (mz_si (mz_si (nB m2 1 a) (30, 0) 32 (Int32.ofNat (spc (L2 43 1) + 1))) (46, 0) 1 0) (50, 0) 1 (-1)) (47, 0) 1 1) L2 := ⟨hE.1, ⟨s1, s2, s3, Or.inl ⟨o0, rfl⟩, rfl, s6, Or.inl ⟨rfl, rfl⟩, Or.inr (Or.inl ⟨rfl, rfl⟩), ⟨rfl, Or.inl rfl⟩, ⟨rfl, 0, by decide, rfl⟩, ⟨rfl, Or.inl ⟨rfl, rfl⟩⟩, s12, s13, s14, s15, Or.inl t16⟩, hE.2.2⟩
      refine fin5_1 (m1 := m1) (m2 := m2) (v := 331) (a := a) hEE ha ha rfl (by decide) (by decide) (by decide) (by decide) ⟨o0, rfl⟩ ⟨fun _ => rfl, rfl, rfl, rfl, rfl, rfl, rfl, rfl, rfl, rfl⟩ rfl h9 (fun M1' hr => hk M1' (fun M2 K2 h2 hk2 => ref M2 K2 1 h2 (Or.inl ⟨rfl, q2⟩) (fun M3 h3' => hr M3 K2 h3' hk2)))
    · rw [w3] at q2
      rintro _ rfl
      have ht := h2.si (o := (8, 1)) (k := 16) (v := 331) rfl
      refine pl_forget (v := 331) true false false ht rfl (⟨fun _ => rfl, fun _ => rfl⟩) (fg_2 (by decide)) (fg_2 (by decide)) (fun M9 h9 => ?_)
      have hEE : EE (fgM (mz_si (mz_si (mz_si (mz_si (mz_si (mS m1 1 (spc (L1 13 1)) fr vd) (8, 1) 16 0) (8, 1) 7 0) (6, 0) 1 (-1)) (8, 1) 9 3) (8, 1) 16 331) 1 true false false) (lu L1 15 1 ss) (mz_si (mz_si (mz_si (mz_si (nB m2 1 a) (30, 0) 32 (Int32.ofNat (spc (L2 43 1) + 1))) (46, 0) 1 0) (50, 0) 1 (-1)) (47, 0) 1 3) L2 := ⟨hE.1, ⟨s1, s2, s3, Or.inl ⟨o0, rfl⟩, rfl, s6, Or.inl ⟨rfl, rfl⟩, Or.inr (Or.inr (Or.inr ⟨rfl, rfl⟩)), ⟨rfl, Or.inl rfl⟩, ⟨rfl, 0, by decide, rfl⟩, ⟨rfl, Or.inl ⟨rfl, rfl⟩⟩, s12, s13, s14, s15, Or.inl t16⟩, hE.2.2⟩
      refine fin5_1 (m1 := m1) (m2 := m2) (v := 331) (a := a) hEE ha ha rfl (by decide) (by decide) (by decide) (by decide) ⟨o0, rfl⟩ ⟨fun _ => rfl, rfl, rfl, rfl, rfl, rfl, rfl, rfl, rfl, rfl⟩ rfl h9 (fun M1' hr => hk M1' (fun M2 K2 h2 hk2 => ref M2 K2 3 h2 (Or.inr (Or.inr ⟨rfl, q2, q⟩)) (fun M3 h3' => hr M3 K2 h3' hk2)))
theorem ob_1_1 : obPred 1 1 := by
  intro m1 m2 M L1 L2 fr vd a ss K hE o0 ha hfit hW hD hA hfr hss h hk
  obtain ⟨s1, s2, s3, s4, s5, s6, s7, s8, s9, s10, s11, s12, s13, s14, s15, s16⟩ := hE.2.1
  have hcl := spc_le (L1 13 1)
  have h30 : (L1 13 1).length ≤ 30 := (h.line 1).2.1
  have sl : spc (L2 43 1) = spc (L1 13 1) := by rw [s3]
  have r53 : mz_i m2 (53, 0) 1 = 0 := s14.symm.trans (hD.elim (fun z => absurd rfl z) id)
  have s16' := s16
  rcases s16' with t16 | ⟨t16, _⟩ | ⟨t16, _⟩
  rotate_left
  · exact absurd (r53.symm.trans t16) (by decide)
  · exact absurd (r53.symm.trans t16) (by decide)
  have w4 : mzStrB.getD 4 [] = [107, 101, 121] := rfl
  have s0 : ∀ M2 : MzM, A2 M2 (mz_si (nB m2 1 a) (30, 0) 32 (Int32.ofNat (spc (L2 43 1) + 1))) L2 → (mz_i M2 (30, 0) 29).toInt = ((1 : Nat) : Int) := fun M2 h2 => by rw [h2.1 30 29 rfl]; exact ha
  have lne : ∀ w : List Int32, aisP (L2 43 1) w (spc (L2 43 1) + 1) ↔ aisP (L1 13 1) w (spc (L1 13 1) + 1) := fun w => by rw [s3]
  have e9 : mz_i M (8, 1) 9 = mz_i m1 (8, 1) 9 := h.1 (8, 1) 9 rfl
  -- a refused key
  have no : ∀ v : Int32, (v = 503 ∨ v = 530) → (∀ (M2 : MzM) (K2 : MzM → Prop), A2 M2 (mz_si (nB m2 1 a) (30, 0) 32 (Int32.ofNat (spc (L2 43 1) + 1))) L2 → wp_Mo_answer v M2 (clrK a K2) → wp_Mo_doLine_255 (clrK a K2) (mz_i m2 (47, 0) 1) (mz_i m2 (48, 0) 1) (mz_i m2 (49, 0) 1) (Int32.ofNat (1 + 1)) (eaI 1) M2) → ∀ M129 : MzM, M129 = mz_si M (8, 1) 16 v → tl 1 1 K M129 := by
    rintro v (rfl | rfl) hr'
    · skip
      rintro _ rfl
      have ht := h.si (o := (8, 1)) (k := 16) (v := 503) rfl
      refine pl_forget (v := 503) false false false ht rfl (fg_s (by decide)) (fg_2 (by decide)) (fg_2 (by decide)) (fun M9 h9 => ?_)
      have hEE : EE (fgM (mz_si (mz_si (mS m1 1 (spc (L1 13 1)) fr vd) (8, 1) 16 0) (8, 1) 16 503) 1 false false false) (lu L1 15 1 ss) (mz_si (nB m2 1 a) (30, 0) 32 (Int32.ofNat (spc (L2 43 1) + 1))) L2 := ⟨hE.1, ⟨s1, s2, s3, Or.inl ⟨o0, rfl⟩, rfl, s6, s7, Or.inl ⟨rfl, rfl⟩, ⟨rfl, Or.inl rfl⟩, ⟨rfl, 0, by decide, rfl⟩, s11, s12, s13, s14, s15, s16⟩, hE.2.2⟩
      refine fin5_1 (m1 := m1) (m2 := m2) (v := 503) (a := a) hEE ha ha rfl (by decide) (by decide) (by decide) (by decide) ⟨o0, rfl⟩ ⟨fun _ => rfl, rfl, rfl, rfl, rfl, rfl, rfl, rfl, rfl, rfl⟩ rfl h9 (fun M1' hr => hk M1' (fun M2 K2 h2 hk2 => hr' M2 K2 h2 (hr M2 K2 h2 hk2)))
    · skip
      rintro _ rfl
      have ht := h.si (o := (8, 1)) (k := 16) (v := 530) rfl
      refine pl_forget (v := 530) false false false ht rfl (fg_s (by decide)) (fg_2 (by decide)) (fg_2 (by decide)) (fun M9 h9 => ?_)
      have hEE : EE (fgM (mz_si (mz_si (mS m1 1 (spc (L1 13 1)) fr vd) (8, 1) 16 0) (8, 1) 16 530) 1 false false false) (lu L1 15 1 ss) (mz_si (nB m2 1 a) (30, 0) 32 (Int32.ofNat (spc (L2 43 1) + 1))) L2 := ⟨hE.1, ⟨s1, s2, s3, Or.inl ⟨o0, rfl⟩, rfl, s6, s7, Or.inl ⟨rfl, rfl⟩, ⟨rfl, Or.inl rfl⟩, ⟨rfl, 0, by decide, rfl⟩, s11, s12, s13, s14, s15, s16⟩, hE.2.2⟩
      refine fin5_1 (m1 := m1) (m2 := m2) (v := 530) (a := a) hEE ha ha rfl (by decide) (by decide) (by decide) (by decide) ⟨o0, rfl⟩ ⟨fun _ => rfl, rfl, rfl, rfl, rfl, rfl, rfl, rfl, rfl, rfl⟩ rfl h9 (fun M1' hr => hk M1' (fun M2 K2 h2 hk2 => hr' M2 K2 h2 (hr M2 K2 h2 hk2)))
  have yes : ∀ u w : Int32, ((w = 1 ∧ u = 2) ∨ (w = 2 ∧ u = 1)) → mz_i m1 (8, 1) 9 = u → (∀ (M2 : MzM) (K2 : MzM → Prop), A2 M2 (mz_si (nB m2 1 a) (30, 0) 32 (Int32.ofNat (spc (L2 43 1) + 1))) L2 → (∀ M3, A2 M3 (mz_si (mz_si (mz_si (mz_si (nB m2 1 a) (30, 0) 32 (Int32.ofNat (spc (L2 43 1) + 1))) (46, 0) 1 w) (50, 0) 1 0) (51, 0) 1 0) L2 → wp_Mo_answer 230 M3 (clrK a K2)) → wp_Mo_doLine_255 (clrK a K2) (mz_i m2 (47, 0) 1) (mz_i m2 (48, 0) 1) (mz_i m2 (49, 0) 1) (Int32.ofNat (1 + 1)) (eaI 1) M2) → wp_Ses_logIn_44 1 (fun v M125 => ∀ M129 : MzM, M129 = mz_si M125 (8, 1) 16 v → tl 1 1 K M129) M := by
    intro u w huw hu hr'
    have eu : mz_i M (8, 1) 9 = u := e9.trans hu
    unfold wp_Ses_logIn_44
    rw [eu]
    rintro _ rfl
    have h3 := h.si (o := (8, 1)) (k := 7) (v := u) rfl
    have tx : (mz_i (mz_si M (8, 1) 7 u) (8, 1) 0).toInt = ((1 : Nat) : Int) := by
      rw [h3.1 (8, 1) 0 rfl, show mz_i (mz_si (mz_si (mS m1 1 (spc (L1 13 1)) fr vd) (8, 1) 16 0) (8, 1) 7 u) (8, 1) 0 = Int32.ofNat 1 from s1]
      rfl
    refine ⟨1, tx, by decide, ?_⟩
    rintro _ rfl _ rfl
    have h4 := h3.si (o := (6, 0)) (k := 1) (v := 0) rfl
    have h5 := h4.si (o := (8, 1)) (k := 8) (v := 0) rfl
    have hwho : whoE u w := by
      rcases huw with ⟨rfl, rfl⟩ | ⟨rfl, rfl⟩
      · exact Or.inr (Or.inl ⟨rfl, rfl⟩)
      · exact Or.inr (Or.inr ⟨rfl, rfl⟩)
    have hw0 : ¬ w = 0 := by
      rcases huw with ⟨rfl, rfl⟩ | ⟨rfl, rfl⟩ <;> decide
    rintro _ rfl
    have ht := h5.si (o := (8, 1)) (k := 16) (v := 230) rfl
    refine pl_forget (v := 230) false false false ht rfl (fg_s (by decide)) (fg_2 (by decide)) (fg_2 (by decide)) (fun M9 h9 => ?_)
    have hEE : EE (fgM (mz_si (mz_si (mz_si (mz_si (mz_si (mS m1 1 (spc (L1 13 1)) fr vd) (8, 1) 16 0) (8, 1) 7 u) (6, 0) 1 0) (8, 1) 8 0) (8, 1) 16 230) 1 false false false) (lu L1 15 1 ss) (mz_si (mz_si (mz_si (mz_si (nB m2 1 a) (30, 0) 32 (Int32.ofNat (spc (L2 43 1) + 1))) (46, 0) 1 w) (50, 0) 1 0) (51, 0) 1 0) L2 := ⟨hE.1, ⟨s1, s2, s3, Or.inl ⟨o0, rfl⟩, rfl, s6, hwho, Or.inl ⟨rfl, rfl⟩, ⟨rfl, Or.inl rfl⟩, ⟨rfl, 0, by decide, rfl⟩, ⟨rfl, Or.inr ⟨hw0, 0, hE.2.2.2.2.1.1, rfl⟩⟩, ⟨rfl, Or.inl rfl⟩, s13, s14, s15, Or.inl t16⟩, hE.2.2⟩
    refine fin5_1 (m1 := m1) (m2 := m2) (v := 230) (a := a) hEE ha ha rfl (by decide) (by decide) (by decide) (by decide) ⟨o0, rfl⟩ ⟨fun _ => rfl, rfl, rfl, rfl, rfl, rfl, rfl, rfl, rfl, rfl⟩ rfl h9 (fun M1' hr => hk M1' (fun M2 K2 h2 hk2 => hr' M2 K2 h2 (fun M3 h3' => hr M3 K2 h3' hk2)))
  -- the reference's part for a name and a key
  have t112g : ∀ (M2 : MzM) (K2 : MzM → Prop) (w : Int32), ¬ w = 0 → A2 M2 (mz_si (nB m2 1 a) (30, 0) 32 (Int32.ofNat (spc (L2 43 1) + 1))) L2 → (∀ M3, A2 M3 (mz_si (mz_si (mz_si (mz_si (nB m2 1 a) (30, 0) 32 (Int32.ofNat (spc (L2 43 1) + 1))) (46, 0) 1 w) (50, 0) 1 0) (51, 0) 1 0) L2 → wp_Mo_answer 230 M3 (clrK a K2)) → wp_Mo_doEarly_107 (clrK a K2) w M2 := by
    intro M2 K2 w hw0 h2 hans
    refine ⟨fun z => absurd z (by decide), fun _ => ⟨1, s0 M2 h2, by decide, ?_⟩⟩
    rintro _ rfl
    refine ⟨1, s0 M2 h2, by decide, ?_⟩
    rintro _ rfl
    refine ⟨1, s0 M2 h2, by decide, ?_⟩
    rintro _ rfl
    have h3 := ((h2.si (t := 46) (k := 1) (v := w) rfl).si (t := 50) (k := 1) (v := 0) rfl).si (t := 51) (k := 1) (v := 0) rfl
    exact ⟨fun _ => ⟨fun z => absurd z (by decide), fun _ => hans _ h3⟩, fun z => absurd z hw0⟩
  have t111 : ∀ (M2 : MzM) (K2 : MzM → Prop) (w : Int32), (w = 0 → wp_Mo_answer 503 M2 (clrK a K2)) → (¬ w = 0 → wp_Mo_answer 530 M2 (clrK a K2)) → wp_Mo_doEarly_111 (clrK a K2) w M2 := by
    intro M2 K2 w k1 k2
    exact ⟨fun _ => ⟨fun z => ⟨fun _ => k2 z, fun z => absurd rfl z⟩, k1⟩, fun z => absurd rfl z⟩
  have early : ∀ (M2 : MzM) (K2 : MzM → Prop), ((mz_i m2 (47, 0) 1 = 1 → wp_Mo_doEarly_107 (clrK a K2) (mz_i m2 (47, 0) 1) M2) ∧ (¬ mz_i m2 (47, 0) 1 = 1 → ((¬ mz_i m2 (47, 0) 1 = 2 → wp_Mo_doEarly_111 (clrK a K2) (mz_i m2 (47, 0) 1) M2) ∧ (mz_i m2 (47, 0) 1 = 2 → wp_Mo_says 107 101 121 M2 (fun v14 M11 => ((v14 = 0 → wp_Mo_doEarly_111 (clrK a K2) (mz_i m2 (47, 0) 1) M11) ∧ (¬ v14 = 0 → wp_Mo_doEarly_107 (clrK a K2) (mz_i m2 (47, 0) 1) M11))))))) → wp_Mo_doLine_255 (clrK a K2) (mz_i m2 (47, 0) 1) (mz_i m2 (48, 0) 1) (mz_i m2 (49, 0) 1) (Int32.ofNat (1 + 1)) (eaI 1) M2 := by
    intro M2 K2 g
    exact ⟨fun z => absurd z (by decide), fun _ => ⟨fun _ => ⟨fun z => absurd rfl z, fun _ => g⟩, fun z => absurd z (by decide)⟩⟩
  refine ⟨fun z => absurd z (by decide), fun _ => ⟨1, rfl, by decide, fun z => absurd z (by decide), fun _ => ?_, fun z => absurd z (by decide), fun z => absurd z (by decide), fun z => absurd z (by decide), fun z => absurd z (by decide), fun z => absurd z (by decide), fun z => absurd z (by decide), fun z => absurd z (by decide), fun z => absurd z (by decide), fun z => absurd z (by decide), fun n1 n2 n3 n4 n5 n6 n7 n8 n9 n10 n11 => absurd rfl n2⟩⟩
  unfold wp_Ses_logIn
  rw [e9]
  rcases s8 with ⟨q2, q1⟩ | ⟨q2, q1⟩ | ⟨q2, q1⟩ | ⟨q2, q1⟩
  · rw [q1]
    refine ⟨fun z => absurd rfl z, fun _ => no 503 (Or.inl rfl) (fun M2 K2 h2 hans => early M2 K2 ?_)⟩
    rw [q2]
    exact ⟨fun z => absurd z (by decide), fun _ => ⟨fun _ => t111 M2 K2 0 (fun _ => hans) (fun z => absurd rfl z), fun z => absurd z (by decide)⟩⟩
  · rw [q1]
    refine ⟨fun _ => ⟨fun z => absurd z (by decide), fun _ => ⟨fun _ => yes 2 1 (Or.inl ⟨rfl, rfl⟩) q1 (fun M2 K2 h2 hans => early M2 K2 ?_), fun z => absurd z (by decide)⟩⟩, fun z => absurd z (by decide)⟩
    rw [q2]
    exact ⟨fun _ => t112g M2 K2 1 (by decide) h2 hans, fun z => absurd rfl z⟩
  · rw [q1]
    refine ⟨fun _ => ⟨fun z => absurd z (by decide), fun _ => ⟨fun z => absurd rfl z, fun _ => pl_argumentIs (cl := spc (L1 13 1)) h rfl hcl (by decide) (fun q => ⟨fun _ => yes 1 2 (Or.inr ⟨rfl, rfl⟩) q1 (fun M2 K2 h2 hans => early M2 K2 ?_), fun z => absurd z (by decide)⟩) (fun q => ⟨fun z => absurd rfl z, fun _ => no 530 (Or.inr rfl) (fun M2 K2 h2 hans => early M2 K2 ?_)⟩)⟩⟩, fun z => absurd z (by decide)⟩
    · rw [q2]
      rw [w4] at q
      exact ⟨fun z => absurd z (by decide), fun _ => ⟨fun z => absurd rfl z, fun _ => mo_says (x := 1) (b := spc (L2 43 1) + 1) h2 ha (by decide) rfl (by omega) (fun _ => ⟨fun z => absurd z (by decide), fun _ => t112g M2 K2 2 (by decide) h2 hans⟩) (fun w => absurd ((lne _).mpr q) w)⟩⟩
    · rw [q2]
      rw [w4] at q
      exact ⟨fun z => absurd z (by decide), fun _ => ⟨fun z => absurd rfl z, fun _ => mo_says (x := 1) (b := spc (L2 43 1) + 1) h2 ha (by decide) rfl (by omega) (fun w => absurd ((lne _).mp w) q) (fun _ => ⟨fun _ => t111 M2 K2 2 (fun z => absurd z (by decide)) (fun _ => hans), fun z => absurd rfl z⟩)⟩⟩
  · rw [q1]
    refine ⟨fun _ => ⟨fun _ => no 530 (Or.inr rfl) (fun M2 K2 h2 hans => early M2 K2 ?_), fun z => absurd rfl z⟩, fun z => absurd z (by decide)⟩
    rw [q2]
    exact ⟨fun z => absurd z (by decide), fun _ => ⟨fun _ => t111 M2 K2 3 (fun z => absurd z (by decide)) (fun _ => hans), fun z => absurd z (by decide)⟩⟩
