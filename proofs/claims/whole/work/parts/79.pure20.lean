theorem xcases {x : Nat} (h : x < 2) : x = 0 ∨ x = 1 := by omega
theorem ee_57_0 {m1 m2 : MzM} {L1 L2 : MzV} (hE : EE m1 L1 m2 L2) (r0 : mz_i m2 (53, 0) 0 = 0) (v : Int32) : EE m1 L1 (mz_si m2 (57, 0) 0 v) L2 := by
  obtain ⟨s1, s2, s3, s4, s5, s6, s7, s8, s9, s10, s11, s12, s13, s14, s15, htr⟩ := hE.1
  rcases htr with t | ⟨z, _⟩ | ⟨z, _⟩
  · exact ⟨⟨s1, s2, s3, s4, s5, s6, s7, s8, s9, s10, s11, s12, s13, s14, s15, Or.inl t⟩, hE.2.1, hE.2.2⟩
  · exact absurd (r0.symm.trans z) (by decide)
  · exact absurd (r0.symm.trans z) (by decide)
theorem take_0 {m1 m2 M1 : MzM} {L1 L2 : MzV} {a : Int32} {K : Int32 → MzM → Prop} (hE : EE m1 L1 m2 L2) (ha : a.toInt = ((0 : Nat) : Int)) (h1 : A1 M1 m1 L1) (t1 : mz_i m2 (53, 0) 0 = 1) (hk : ∀ v M1', (∀ (M2 : MzM) (K2 : Int32 → MzM → Prop), A2 M2 m2 L2 → (∀ M2', OO m1 m2 M1' M2' → K2 v M2') → wp_Mo_takeOne a M2 K2) → K v M1') : wp_Ses_sendByte 0 M1 K := by
  obtain ⟨s1, s2, s3, s4, s5, s6, s7, s8, s9, s10, s11, s12, s13, hmode, hheld, htr⟩ := hE.1
  rcases htr with ⟨z, _⟩ | ⟨_, t2, t3, ⟨p, hp, p1, p2⟩, t5⟩ | ⟨z, _⟩
  · exact absurd (z.symm.trans t1) (by decide)
  rotate_left
  · exact absurd (z.symm.trans t1) (by decide)
  obtain ⟨e1, e2, e3⟩ := h1.2.2.1 17 16 7 75 0 rfl
  have hp1 : p < (L1 17 0).length := by rw [t3]; exact hp
  have f7 : (mz_i M1 (16, 0) 7).toInt = ((L1 17 0).length : Int) := by rw [e1]; exact itn (by omega)
  have f6 : (mz_i M1 (16, 0) 6).toInt = (p : Int) := by rw [h1.1 (16, 0) 6 rfl, p2]; exact itn (by omega)
  have hc := e3 p hp1
  have q226 : qap (L1 9 0) (dg 226 ++ [13] ++ [10]) = qap (L2 45 0) (dgo 226 ++ [13] ++ [10]) := by rw [s2, dg226]
  have sc : mz_i M1 (16, 0) 6 + 1 = Int32.ofNat (p + 1) := i32_succ ((h1.1 (16, 0) 6 rfl).trans p2)
  -- the reference as far as its question
  have ref : ∀ (M2 : MzM) (K2 : Int32 → MzM → Prop), A2 M2 m2 L2 → (¬ p + 1 = (L2 58 0).length → ∀ M2', A2 M2' (mz_si m2 (57, 0) 0 (Int32.ofNat (p + 1))) L2 → K2 (mz_i M1 (17, 0) p) M2') → (p + 1 = (L2 58 0).length → ∀ M2', A2 M2' (mz_si m2 (57, 0) 0 (Int32.ofNat (p + 1))) L2 → wp_Mo_finish a M2' (fun M27 => K2 (mz_i M1 (17, 0) p) M27)) → wp_Mo_takeOne a M2 K2 := by
    intro M2 K2 h2 k1 k2
    obtain ⟨d1, d2, d3⟩ := h2.2 58 56 96 2 0 rfl (by decide)
    have g1 : (mz_i M2 (57, 0) 0).toInt = (p : Int) := by rw [h2.1 57 0 rfl, p1]; exact itn (by omega)
    have g2 : ((96 : Int32) * a).toInt = 96 * ((0 : Nat) : Int) := imul (m := 96) rfl ha (by decide) (by decide)
    have g3 : (((96 : Int32) * a) + mz_i M2 (57, 0) 0).toInt = ((96 * 0 + p : Nat) : Int) := by rw [iadd g2 g1 (by omega) (by omega)]; omega
    have g4 : mz_i M2 (58, 0) (96 * 0 + p) = mz_i M1 (17, 0) p := by
      have q := d3 p hp
      rw [← t3, hc] at q
      exact (Option.some.inj q).symm
    have g5 : mz_i M2 (57, 0) 0 + 1 = Int32.ofNat (p + 1) := i32_succ ((h2.1 57 0 rfl).trans p1)
    refine ⟨0, ha, by decide, 96 * 0 + p, g3, by omega, 0, ha, by decide, 0, ha, by decide, ?_⟩
    rw [g5, g4]
    rintro _ rfl
    have h3 := h2.si (t := 57) (k := 0) (v := Int32.ofNat (p + 1)) rfl
    have g6 : (mz_i (mz_si M2 (57, 0) 0 (Int32.ofNat (p + 1))) (57, 0) 0).toInt = ((p + 1 : Nat) : Int) := by
      rw [mz_i_si, if_pos ⟨rfl, rfl⟩]
      exact itn (by omega)
    have g7 : (mz_i (mz_si M2 (57, 0) 0 (Int32.ofNat (p + 1))) (56, 0) 0).toInt = ((L2 58 0).length : Int) := by
      rw [mz_i_si, if_neg (fun z => pne (by decide) z.1), d1]
      exact itn (by omega)
    refine ⟨0, ha, by decide, 0, ha, by decide, fun h9 => k1 (fun z => h9 ((ieq g6 g7).mpr (by omega))) _ h3, fun h9 => k2 ?_ _ h3⟩
    have z := (ieq g6 g7).mp h9
    omega
  have fin : ∀ (M2 : MzM) (K2 : MzM → Prop), A2 M2 (mz_si m2 (57, 0) 0 (Int32.ofNat (p + 1))) L2 → (∀ M2' w, A2 M2' (mz_si (mz_si (rEnd (mz_si m2 (57, 0) 0 (Int32.ofNat (p + 1))) 0) (30, 0) 29 a) (30, 0) 30 w) (lu L2 45 0 (qap (L2 45 0) (dgo 226 ++ [13] ++ [10]))) → K2 M2') → wp_Mo_finish a M2 K2 := by
    intro M2 K2 h2 kk
    have e53 : mz_i M2 (53, 0) 0 = 1 := (h2.1 53 0 rfl).trans t1
    refine ⟨0, ha, by decide, fun _ => mo_end_n h2 ha (by decide) (fun z => absurd (t1.symm.trans z) (by decide)) (fun M3 h3 => ⟨fun _ => ?_, fun h9 => absurd (by decide) h9⟩), fun h9 => absurd (e53.symm.trans h9) (by decide)⟩
    rintro _ rfl
    have h4 := h3.si (t := 30) (k := 29) (v := a) rfl
    exact mo_answer h4 ha (by decide) (fun M5 h5 => kk M5 _ h5)
  refine ⟨fun h9 => absurd ((ile f7 f6).mp h9) (by omega), fun _ => ⟨fun _ => ⟨p, f6, by omega, ?_⟩, fun h9 => absurd ((ilt (n := 75) f6 rfl).mpr (by omega)) h9⟩⟩
  rw [sc]
  rintro _ rfl
  have h3 := h1.si (o := (16, 0)) (k := 6) (v := Int32.ofNat (p + 1)) rfl
  have hm3 : mz_i (mz_si M1 (16, 0) 6 (Int32.ofNat (p + 1))) (16, 0) 1 = 1 := (h1.1 (16, 0) 1 rfl).trans (hmode.trans t1)
  have f6' : (mz_i (mz_si M1 (16, 0) 6 (Int32.ofNat (p + 1))) (16, 0) 6).toInt = ((p + 1 : Nat) : Int) := by
    rw [mz_i_si, if_pos ⟨rfl, rfl⟩]
    exact itn (by omega)
  have f7' : (mz_i (mz_si M1 (16, 0) 6 (Int32.ofNat (p + 1))) (16, 0) 7).toInt = ((L1 17 0).length : Int) := by
    rw [mz_ne_k (by decide)]
    exact f7
  have hlen : (L1 17 0).length = (L2 58 0).length := by rw [t3]
  refine ⟨fun h9 => absurd hm3 h9, fun _ => ⟨fun h9 => ⟨fun _ => ?_, fun z => absurd rfl z⟩, fun h9 => ⟨fun z => absurd z (by decide), fun _ => ?_⟩⟩⟩
  · have hlt := (ilt f6' f7').mp h9
    refine hk _ _ (fun M2 K2 h2 hk2 => ref M2 K2 h2 (fun _ M2' h2' => hk2 _ ⟨_, _, _, _, h3, h2', ?_, ⟨fun _ => rfl, rfl, rfl, rfl, rfl, rfl, rfl, rfl, rfl, rfl⟩⟩) (fun z => absurd z (by omega)))
    exact ⟨⟨s1, s2, s3, s4, s5, s6, s7, s8, s9, s10, s11, s12, s13, hmode, hheld, Or.inr (Or.inl ⟨t1, t2, t3, ⟨p + 1, by omega, rfl, rfl⟩, t5⟩)⟩, hE.2.1, hE.2.2.1, hE.2.2.2.1, hE.2.2.2.2.1, hE.2.2.2.2.2.1, hE.2.2.2.2.2.2.1, hE.2.2.2.2.2.2.2.1, hE.2.2.2.2.2.2.2.2⟩
  · have hnl : ¬ ((p + 1 : Nat) : Int) < ((L1 17 0).length : Int) := fun z => h9 ((ilt f6' f7').mpr z)
    rcases t5 with ⟨t5, t6⟩ | ⟨n, t6, t7, t8⟩
    · refine pl_way_none h3 t5 (fun M1' h1' => pl_answer5 h1' (by decide) (by decide) (fun M1q ds h1q => hk _ _ (fun M2 K2 h2 hk2 => ref M2 K2 h2 (fun z => absurd (by omega) z) (fun _ M2f h2f => fin M2f _ h2f (fun M2' w h2' => hk2 _ ⟨_, _, _, _, h1q, h2', ?_, ⟨fun _ => rfl, rfl, rfl, rfl, rfl, rfl, rfl, rfl, rfl, rfl⟩⟩)))))
      have hq := ee_q_0 (ee_none_0 hE t6) ds (qap (L1 9 0) (dg 226 ++ [13] ++ [10]))
      rw [← q226]
      exact ee_57_0 hq rfl (Int32.ofNat (p + 1))
    · refine pl_way_send h3 t6.1 t7 (hmode.trans t1) (fun M1' h1' => pl_answer5 h1' (by decide) (by decide) (fun M1q ds h1q => hk _ _ (fun M2 K2 h2 hk2 => ref M2 K2 h2 (fun z => absurd (by omega) z) (fun _ M2f h2f => fin M2f _ h2f (fun M2' w h2' => hk2 _ ⟨_, _, _, _, h1q, h2', ?_, ⟨fun _ => rfl, rfl, rfl, rfl, rfl, rfl, rfl, rfl, rfl, rfl⟩⟩)))))
      have hq := ee_q_0 (ee_send_0 hE t6.1 t1 t8) ds (qap (L1 9 0) (dg 226 ++ [13] ++ [10]))
      rw [← q226]
      exact ee_57_0 hq rfl (Int32.ofNat (p + 1))
theorem ee_57_1 {m1 m2 : MzM} {L1 L2 : MzV} (hE : EE m1 L1 m2 L2) (r0 : mz_i m2 (53, 0) 1 = 0) (v : Int32) : EE m1 L1 (mz_si m2 (57, 0) 1 v) L2 := by
  obtain ⟨s1, s2, s3, s4, s5, s6, s7, s8, s9, s10, s11, s12, s13, s14, s15, htr⟩ := hE.2.1
  rcases htr with t | ⟨z, _⟩ | ⟨z, _⟩
  · exact ⟨hE.1, ⟨s1, s2, s3, s4, s5, s6, s7, s8, s9, s10, s11, s12, s13, s14, s15, Or.inl t⟩, hE.2.2⟩
  · exact absurd (r0.symm.trans z) (by decide)
  · exact absurd (r0.symm.trans z) (by decide)
theorem take_1 {m1 m2 M1 : MzM} {L1 L2 : MzV} {a : Int32} {K : Int32 → MzM → Prop} (hE : EE m1 L1 m2 L2) (ha : a.toInt = ((1 : Nat) : Int)) (h1 : A1 M1 m1 L1) (t1 : mz_i m2 (53, 0) 1 = 1) (hk : ∀ v M1', (∀ (M2 : MzM) (K2 : Int32 → MzM → Prop), A2 M2 m2 L2 → (∀ M2', OO m1 m2 M1' M2' → K2 v M2') → wp_Mo_takeOne a M2 K2) → K v M1') : wp_Ses_sendByte 1 M1 K := by
  obtain ⟨s1, s2, s3, s4, s5, s6, s7, s8, s9, s10, s11, s12, s13, hmode, hheld, htr⟩ := hE.2.1
  rcases htr with ⟨z, _⟩ | ⟨_, t2, t3, ⟨p, hp, p1, p2⟩, t5⟩ | ⟨z, _⟩
  · exact absurd (z.symm.trans t1) (by decide)
  rotate_left
  · exact absurd (z.symm.trans t1) (by decide)
  obtain ⟨e1, e2, e3⟩ := h1.2.2.1 17 16 7 75 1 rfl
  have hp1 : p < (L1 17 1).length := by rw [t3]; exact hp
  have f7 : (mz_i M1 (16, 1) 7).toInt = ((L1 17 1).length : Int) := by rw [e1]; exact itn (by omega)
  have f6 : (mz_i M1 (16, 1) 6).toInt = (p : Int) := by rw [h1.1 (16, 1) 6 rfl, p2]; exact itn (by omega)
  have hc := e3 p hp1
  have q226 : qap (L1 9 1) (dg 226 ++ [13] ++ [10]) = qap (L2 45 1) (dgo 226 ++ [13] ++ [10]) := by rw [s2, dg226]
  have sc : mz_i M1 (16, 1) 6 + 1 = Int32.ofNat (p + 1) := i32_succ ((h1.1 (16, 1) 6 rfl).trans p2)
  -- the reference as far as its question
  have ref : ∀ (M2 : MzM) (K2 : Int32 → MzM → Prop), A2 M2 m2 L2 → (¬ p + 1 = (L2 58 1).length → ∀ M2', A2 M2' (mz_si m2 (57, 0) 1 (Int32.ofNat (p + 1))) L2 → K2 (mz_i M1 (17, 1) p) M2') → (p + 1 = (L2 58 1).length → ∀ M2', A2 M2' (mz_si m2 (57, 0) 1 (Int32.ofNat (p + 1))) L2 → wp_Mo_finish a M2' (fun M27 => K2 (mz_i M1 (17, 1) p) M27)) → wp_Mo_takeOne a M2 K2 := by
    intro M2 K2 h2 k1 k2
    obtain ⟨d1, d2, d3⟩ := h2.2 58 56 96 2 1 rfl (by decide)
    have g1 : (mz_i M2 (57, 0) 1).toInt = (p : Int) := by rw [h2.1 57 1 rfl, p1]; exact itn (by omega)
    have g2 : ((96 : Int32) * a).toInt = 96 * ((1 : Nat) : Int) := imul (m := 96) rfl ha (by decide) (by decide)
    have g3 : (((96 : Int32) * a) + mz_i M2 (57, 0) 1).toInt = ((96 * 1 + p : Nat) : Int) := by rw [iadd g2 g1 (by omega) (by omega)]; omega
    have g4 : mz_i M2 (58, 0) (96 * 1 + p) = mz_i M1 (17, 1) p := by
      have q := d3 p hp
      rw [← t3, hc] at q
      exact (Option.some.inj q).symm
    have g5 : mz_i M2 (57, 0) 1 + 1 = Int32.ofNat (p + 1) := i32_succ ((h2.1 57 1 rfl).trans p1)
    refine ⟨1, ha, by decide, 96 * 1 + p, g3, by omega, 1, ha, by decide, 1, ha, by decide, ?_⟩
    rw [g5, g4]
    rintro _ rfl
    have h3 := h2.si (t := 57) (k := 1) (v := Int32.ofNat (p + 1)) rfl
    have g6 : (mz_i (mz_si M2 (57, 0) 1 (Int32.ofNat (p + 1))) (57, 0) 1).toInt = ((p + 1 : Nat) : Int) := by
      rw [mz_i_si, if_pos ⟨rfl, rfl⟩]
      exact itn (by omega)
    have g7 : (mz_i (mz_si M2 (57, 0) 1 (Int32.ofNat (p + 1))) (56, 0) 1).toInt = ((L2 58 1).length : Int) := by
      rw [mz_i_si, if_neg (fun z => pne (by decide) z.1), d1]
      exact itn (by omega)
    refine ⟨1, ha, by decide, 1, ha, by decide, fun h9 => k1 (fun z => h9 ((ieq g6 g7).mpr (by omega))) _ h3, fun h9 => k2 ?_ _ h3⟩
    have z := (ieq g6 g7).mp h9
    omega
  have fin : ∀ (M2 : MzM) (K2 : MzM → Prop), A2 M2 (mz_si m2 (57, 0) 1 (Int32.ofNat (p + 1))) L2 → (∀ M2' w, A2 M2' (mz_si (mz_si (rEnd (mz_si m2 (57, 0) 1 (Int32.ofNat (p + 1))) 1) (30, 0) 29 a) (30, 0) 30 w) (lu L2 45 1 (qap (L2 45 1) (dgo 226 ++ [13] ++ [10]))) → K2 M2') → wp_Mo_finish a M2 K2 := by
    intro M2 K2 h2 kk
    have e53 : mz_i M2 (53, 0) 1 = 1 := (h2.1 53 1 rfl).trans t1
    refine ⟨1, ha, by decide, fun _ => mo_end_n h2 ha (by decide) (fun z => absurd (t1.symm.trans z) (by decide)) (fun M3 h3 => ⟨fun _ => ?_, fun h9 => absurd (by decide) h9⟩), fun h9 => absurd (e53.symm.trans h9) (by decide)⟩
    rintro _ rfl
    have h4 := h3.si (t := 30) (k := 29) (v := a) rfl
    exact mo_answer h4 ha (by decide) (fun M5 h5 => kk M5 _ h5)
  refine ⟨fun h9 => absurd ((ile f7 f6).mp h9) (by omega), fun _ => ⟨fun _ => ⟨p, f6, by omega, ?_⟩, fun h9 => absurd ((ilt (n := 75) f6 rfl).mpr (by omega)) h9⟩⟩
  rw [sc]
  rintro _ rfl
  have h3 := h1.si (o := (16, 1)) (k := 6) (v := Int32.ofNat (p + 1)) rfl
  have hm3 : mz_i (mz_si M1 (16, 1) 6 (Int32.ofNat (p + 1))) (16, 1) 1 = 1 := (h1.1 (16, 1) 1 rfl).trans (hmode.trans t1)
  have f6' : (mz_i (mz_si M1 (16, 1) 6 (Int32.ofNat (p + 1))) (16, 1) 6).toInt = ((p + 1 : Nat) : Int) := by
    rw [mz_i_si, if_pos ⟨rfl, rfl⟩]
    exact itn (by omega)
  have f7' : (mz_i (mz_si M1 (16, 1) 6 (Int32.ofNat (p + 1))) (16, 1) 7).toInt = ((L1 17 1).length : Int) := by
    rw [mz_ne_k (by decide)]
    exact f7
  have hlen : (L1 17 1).length = (L2 58 1).length := by rw [t3]
  refine ⟨fun h9 => absurd hm3 h9, fun _ => ⟨fun h9 => ⟨fun _ => ?_, fun z => absurd rfl z⟩, fun h9 => ⟨fun z => absurd z (by decide), fun _ => ?_⟩⟩⟩
  · have hlt := (ilt f6' f7').mp h9
    refine hk _ _ (fun M2 K2 h2 hk2 => ref M2 K2 h2 (fun _ M2' h2' => hk2 _ ⟨_, _, _, _, h3, h2', ?_, ⟨fun _ => rfl, rfl, rfl, rfl, rfl, rfl, rfl, rfl, rfl, rfl⟩⟩) (fun z => absurd z (by omega)))
    exact ⟨hE.1, ⟨s1, s2, s3, s4, s5, s6, s7, s8, s9, s10, s11, s12, s13, hmode, hheld, Or.inr (Or.inl ⟨t1, t2, t3, ⟨p + 1, by omega, rfl, rfl⟩, t5⟩)⟩, hE.2.2.1, hE.2.2.2.1, hE.2.2.2.2.1, hE.2.2.2.2.2.1, hE.2.2.2.2.2.2.1, hE.2.2.2.2.2.2.2.1, hE.2.2.2.2.2.2.2.2⟩
  · have hnl : ¬ ((p + 1 : Nat) : Int) < ((L1 17 1).length : Int) := fun z => h9 ((ilt f6' f7').mpr z)
    rcases t5 with ⟨t5, t6⟩ | ⟨n, t6, t7, t8⟩
    · refine pl_way_none h3 t5 (fun M1' h1' => pl_answer5 h1' (by decide) (by decide) (fun M1q ds h1q => hk _ _ (fun M2 K2 h2 hk2 => ref M2 K2 h2 (fun z => absurd (by omega) z) (fun _ M2f h2f => fin M2f _ h2f (fun M2' w h2' => hk2 _ ⟨_, _, _, _, h1q, h2', ?_, ⟨fun _ => rfl, rfl, rfl, rfl, rfl, rfl, rfl, rfl, rfl, rfl⟩⟩)))))
      have hq := ee_q_1 (ee_none_1 hE t6) ds (qap (L1 9 1) (dg 226 ++ [13] ++ [10]))
      rw [← q226]
      exact ee_57_1 hq rfl (Int32.ofNat (p + 1))
    · refine pl_way_send h3 t6.1 t7 (hmode.trans t1) (fun M1' h1' => pl_answer5 h1' (by decide) (by decide) (fun M1q ds h1q => hk _ _ (fun M2 K2 h2 hk2 => ref M2 K2 h2 (fun z => absurd (by omega) z) (fun _ M2f h2f => fin M2f _ h2f (fun M2' w h2' => hk2 _ ⟨_, _, _, _, h1q, h2', ?_, ⟨fun _ => rfl, rfl, rfl, rfl, rfl, rfl, rfl, rfl, rfl, rfl⟩⟩)))))
      have hq := ee_q_1 (ee_send_1 hE t6.1 t1 t8) ds (qap (L1 9 1) (dg 226 ++ [13] ++ [10]))
      rw [← q226]
      exact ee_57_1 hq rfl (Int32.ofNat (p + 1))
theorem rr_take : sim_take RR := by
  intro M1 M2 ov a hl1 hl2 hR
  obtain ⟨m1, L1, m2, L2, h1, h2, hE⟩ := hR
  unfold wh_Law_take wp_PL_take
  refine pz_ses (fun h => ⟨fun _ => ?_, fun h9 => absurd h9 (by decide)⟩) (fun h => ⟨fun h9 => absurd rfl h9, fun _ => Or.inl ⟨rfl, ?_⟩⟩)
  · obtain ⟨x, hx, hx2⟩ := i32_01 h
    have e53 : mz_i M1 (16, x) 1 = mz_i m2 (53, 0) x := (h1.1 _ _ rfl).trans (hE.ses hx2).2.2.2.2.2.2.2.2.2.2.2.2.2.1
    refine ⟨x, hx, hx2, fun h0 => ⟨x, hx, hx2, ?_⟩, fun h0 => Or.inr ⟨rfl, ?_⟩⟩
    · rw [e53] at h0
      have go : ∀ K : Int32 → MzM → Prop, (∀ v M1', (∀ (M2 : MzM) (K2 : Int32 → MzM → Prop), A2 M2 (mz_si m2 (30, 0) 1 0) L2 → (∀ M2', OO m1 (mz_si m2 (30, 0) 1 0) M1' M2' → K2 v M2') → wp_Mo_takeOne a M2 K2) → K v M1') → wp_Ses_sendByte x M1 K := by
        intro K hk
        rcases xcases hx2 with rfl | rfl
        · exact take_0 hE.thr hx h1 h0 hk
        · exact take_1 hE.thr hx h1 h0 hk
      refine go _ (fun v M1' hc => ?_)
      intro N hN
      have h2' : A2 N (mz_si m2 (30, 0) 1 0) L2 := by rw [hN]; exact h2.si (t := 30) rfl
      refine mo_ses (fun _ => ⟨fun _ => ⟨x, hx, hx2, fun _ => hc N _ h2' (fun M2' hO => ⟨hO.thr, fun _ => rfl, hO.rr⟩), fun h9 => absurd ((h2'.1 53 x rfl).trans h0) h9⟩, fun h9 => absurd h9 (by decide)⟩) (fun h9 => absurd h h9)
    · rw [e53] at h0
      rintro M rfl
      refine mo_ses (fun _ => ⟨fun _ => ⟨x, hx, hx2, fun h9 => absurd ((h2.1 53 x rfl).symm.trans h9) h0, fun _ => ?_⟩, fun h9 => absurd h9 (by decide)⟩) (fun h9 => absurd h h9)
      rintro M rfl
      exact ⟨rfl, fun h9 => absurd h9 (by decide), m1, L1, _, L2, h1, (h2.si (t := 30) (k := 1) (v := 0) rfl).si (t := 30) (k := 1) (v := 2) rfl, (hE.c30 0).c30 2⟩
  · rintro M rfl
    refine mo_ses (fun h9 => absurd h9 h) (fun _ => ⟨fun h9 => absurd rfl h9, fun _ => ?_⟩)
    rintro M rfl
    exact ⟨rfl, fun h9 => absurd h9 (by decide), m1, L1, _, L2, h1, (h2.si (t := 30) (k := 1) (v := 0) rfl).si (t := 30) (k := 1) (v := 1) rfl, (hE.c30 0).c30 1⟩
