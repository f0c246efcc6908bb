theorem pz_ses {a : Int32} {K : Int32 → Prop} (h1 : (a = 0 ∨ a = 1) → K 1) (h0 : ¬ (a = 0 ∨ a = 1) → K 0) : wz_PL_isSession a K := by
  refine ⟨fun h => h0 ?_, fun h => ⟨fun h' => h0 ?_, fun h' => h1 (i32_lt2 h h')⟩⟩
  · rintro (rfl | rfl) <;> exact absurd h (by decide)
  · rintro (rfl | rfl) <;> exact absurd h' (by decide)
/-- the copier's places are as they were -/
def cpF (m1 m2 m1' m2' : MzM) : Prop := (∀ k, mz_i m1' (22, 0) k = mz_i m1 (22, 0) k) ∧ mz_r m1' (22, 0) 1 = mz_r m1 (22, 0) 1 ∧ mz_i m2' (30, 0) 38 = mz_i m2 (30, 0) 38 ∧ mz_i m2' (30, 0) 39 = mz_i m2 (30, 0) 39 ∧ mz_i m2' (30, 0) 40 = mz_i m2 (30, 0) 40 ∧ mz_i m2' (30, 0) 41 = mz_i m2 (30, 0) 41 ∧ mz_i m2' (30, 0) 42 = mz_i m2 (30, 0) 42 ∧ mz_i m2' (30, 0) 43 = mz_i m2 (30, 0) 43 ∧ mz_i m2' (30, 0) 44 = mz_i m2 (30, 0) 44 ∧ mz_i m2' (30, 0) 1 = mz_i m2 (30, 0) 1
/-- two memories that come out of a step of session x, over those that went in -/
def OO (m1 m2 : MzM) (M1' M2' : MzM) : Prop := ∃ (m1' : MzM) (L1' : MzV) (m2' : MzM) (L2' : MzV), A1 M1' m1' L1' ∧ A2 M2' m2' L2' ∧ EE m1' L1' m2' L2' ∧ cpF m1 m2 m1' m2'
theorem OO.rr {m1 m2 M1 M2 : MzM} (h : OO m1 m2 M1 M2) : RR M1 M2 := by
  obtain ⟨m1', L1', m2', L2', h1, h2, h3, _⟩ := h
  exact ⟨m1', L1', m2', L2', h1, h2, h3⟩
theorem OO.thr {m1 m2 M1 M2 : MzM} (h : OO m1 m2 M1 M2) : mz_i M2 (30, 0) 1 = mz_i m2 (30, 0) 1 := by
  obtain ⟨m1', L1', m2', L2', h1, h2, h3, h4⟩ := h
  rw [h2.1 30 1 rfl]
  exact h4.2.2.2.2.2.2.2.2.2
theorem close_0 {m1 m2 M1 : MzM} {L1 L2 : MzV} {a : Int32} {K : MzM → Prop} (hE : EE m1 L1 m2 L2) (ha : a.toInt = ((0 : Nat) : Int)) (h1 : A1 M1 m1 L1) (hk : ∀ M1', (∀ (M2 : MzM) (K2 : MzM → Prop), A2 M2 m2 L2 → (∀ M2', OO m1 m2 M1' M2' → K2 M2') → wp_Mo_closeWay a M2 K2) → K M1') : wp_Ses_clientCloses 0 M1 K := by
  obtain ⟨s1, s2, s3, s4, s5, s6, s7, s8, s9, s10, s11, s12, s13, hmode, hheld, htr⟩ := hE.1
  have hy : mz_i M1 (16, 0) 1 = mz_i m2 (53, 0) 0 := (h1.1 _ _ rfl).trans hmode
  have hrr : mz_r M1 (16, 0) 4 = mz_r m1 (16, 0) 4 := h1.2.1 _ _
  have q426 : qap (L1 9 0) (dg 426 ++ [13] ++ [10]) = qap (L2 45 0) (dgo 426 ++ [13] ++ [10]) := by rw [s2, dg426]
  have q226 : qap (L1 9 0) (dg 226 ++ [13] ++ [10]) = qap (L2 45 0) (dgo 226 ++ [13] ++ [10]) := by rw [s2, dg226]
  have r0 : mz_i m2 (53, 0) 0 = 0 → ∀ (M2 : MzM) (K' : MzM → Prop), A2 M2 m2 L2 → (∀ M2', A2 M2' (rEnd (mz_si m2 (30, 0) 29 a) 0) L2 → K' M2') → wp_Mo_closeWay a M2 K' := by
    intro t1 M2 K' h2 hk'
    have e53 := h2.1 53 0 rfl
    refine ⟨0, ha, by decide, fun _ => ?_, fun h9 => absurd ((e53.trans t1).symm.trans h9) (by decide)⟩
    rintro _ rfl
    have h2' := h2.si (t := 30) (k := 29) (v := a) rfl
    refine ⟨0, ha, by decide, fun _ => mo_end_n h2' ha (by decide) (fun z => absurd (t1.symm.trans z) (by decide)) hk', fun h9 => absurd ((e53.trans t1).symm.trans h9) (by decide)⟩
  have r1 : mz_i m2 (53, 0) 0 = 1 → ∀ (M2 : MzM) (K' : MzM → Prop), A2 M2 m2 L2 → (∀ M2', A2 M2' (rEnd (mz_si (mz_si m2 (30, 0) 29 a) (30, 0) 30 (fa (mz_si m2 (30, 0) 29 a) 426)) 0) (lu L2 45 0 (qap (L2 45 0) (dgo 426 ++ [13] ++ [10]))) → K' M2') → wp_Mo_closeWay a M2 K' := by
    intro t1 M2 K' h2 hk'
    have e53 := h2.1 53 0 rfl
    refine ⟨0, ha, by decide, fun _ => ?_, fun h9 => absurd ((e53.trans t1).symm.trans h9) (by decide)⟩
    rintro _ rfl
    have h2' := h2.si (t := 30) (k := 29) (v := a) rfl
    refine ⟨0, ha, by decide, fun h9 => absurd (e53.trans t1) h9, fun _ => mo_answer h2' ha (by decide) (fun M3 h3 => mo_end_n h3 ha (by decide) (fun z => absurd (t1.symm.trans z) (by decide)) hk')⟩
  rcases htr with ⟨t1, t2, t3, t4, t5, t6⟩ | ⟨t1, t2, t3, t4, t5⟩ | ⟨t1, t2, t3, t4, t5, n, t6, t7, t8⟩
  · refine ⟨fun _ => pl_way_none h1 t2 (fun M1' h1' => ?_), fun n1 _ z => absurd (hrr.trans t2) (some3n z), Or.inl (hrr.trans t2)⟩
    rw [hy, t1]
    exact ⟨fun _ => ⟨fun _ => hk _ (fun M2 K2 h2 hk2 => r0 t1 M2 K2 h2 (fun M2' h2' => hk2 _ ⟨_, _, _, _, h1', h2', ee_none_0 hE t3, ⟨fun _ => rfl, rfl, rfl, rfl, rfl, rfl, rfl, rfl, rfl, rfl⟩⟩)), fun h9 => absurd h9 (by decide)⟩, fun h9 => absurd h9 (by decide)⟩
  · rcases t5 with ⟨t5, t6⟩ | ⟨n, t6, t7, t8⟩
    · refine ⟨fun _ => pl_way_none h1 t5 (fun M1' h1' => ?_), fun n1 _ z => absurd (hrr.trans t5) (some3n z), Or.inl (hrr.trans t5)⟩
      rw [hy, t1]
      refine ⟨fun _ => ⟨fun h9 => absurd rfl h9, fun _ => pl_answer5 h1' (by decide) (by decide) (fun M1q ds h1q => hk _ (fun M2 K2 h2 hk2 => r1 t1 M2 K2 h2 (fun M2' h2' => hk2 _ ⟨_, _, _, _, h1q, h2', ?_, ⟨fun _ => rfl, rfl, rfl, rfl, rfl, rfl, rfl, rfl, rfl, rfl⟩⟩)))⟩, fun h9 => absurd h9 (by decide)⟩
      have hq := ee_q_0 (ee_none_0 hE t6) ds (qap (L1 9 0) (dg 426 ++ [13] ++ [10]))
      rw [← q426]
      exact hq
    · refine ⟨fun z => absurd z (some3n (hrr.trans t7)), fun n1 _ z => ⟨fun _ => pl_way_send h1 t6.1 t7 (hmode.trans t1) (fun M1' h1' => ?_), fun h9 => absurd ((hy.trans t1).symm.trans h9) (by decide)⟩, Or.inr ⟨n, t6.1, hrr.trans t7⟩⟩
      rw [hy, t1]
      refine ⟨fun _ => ⟨fun h9 => absurd rfl h9, fun _ => pl_answer5 h1' (by decide) (by decide) (fun M1q ds h1q => hk _ (fun M2 K2 h2 hk2 => r1 t1 M2 K2 h2 (fun M2' h2' => hk2 _ ⟨_, _, _, _, h1q, h2', ?_, ⟨fun _ => rfl, rfl, rfl, rfl, rfl, rfl, rfl, rfl, rfl, rfl⟩⟩)))⟩, fun h9 => absurd h9 (by decide)⟩
      have hq := ee_q_0 (ee_send_0 hE t6.1 t1 t8) ds (qap (L1 9 0) (dg 426 ++ [13] ++ [10]))
      rw [← q426]
      exact hq
  · refine ⟨fun z => absurd z (some3n (hrr.trans t7)), fun n1 _ z => ⟨fun h9 => absurd (hy.trans t1) h9, fun _ => ⟨fun z => absurd z (some3n (hrr.trans t7)), fun n4 _ z4 => ?_, Or.inr ⟨n, t6.1, hrr.trans t7⟩⟩⟩, Or.inr ⟨n, t6.1, hrr.trans t7⟩⟩
    have e4 := some3 (hrr.trans t7) z4
    subst e4
    rintro _ rfl
    have h1u := h1.si (o := (3, n4)) (k := 6) (v := 0) rfl
    refine pl_way_recv h1u t6.1 t7 (hmode.trans t1) (fun M1' h1' => ?_)
    rw [hy, t1]
    refine ⟨fun h9 => absurd rfl h9, fun _ => pl_answer5 h1' (by decide) (by decide) (fun M1q ds h1q => ⟨fun _ => hk _ (fun M2 K2 h2 hk2 => ?_), fun h9 => absurd h9 (by decide)⟩)⟩
    have e53 := h2.1 53 0 rfl
    have e54 := h2.1 54 0 rfl
    refine ⟨0, ha, by decide, fun h9 => absurd (e53.trans t1) h9, fun _ => ⟨0, ha, by decide, fun h9 => absurd (e53.trans t1) h9, fun _ => ⟨0, ha, by decide, ?_⟩⟩⟩
    refine mo_end_h (n := n4) h2 ha (by decide) t1 t6.1 t8 (fun M3 h3 => ⟨fun h9 => ?_, fun _ => ⟨n4, ?_, t6.1, ?_⟩⟩)
    · rw [e54, t8] at h9
      have z := (ilt (n := 0) (itn (n := n4) (by have := t6.1; omega)) rfl).mp h9
      exact absurd z (by omega)
    · rw [e54, t8]
      exact itn (by have := t6.1; omega)
    · rintro _ rfl _ rfl
      have h4 := h3.si (t := 37) (k := n4) (v := 1) rfl
      have h5 := h4.si (t := 30) (k := 29) (v := a) rfl
      refine mo_answer h5 ha (by decide) (fun M2' h2' => hk2 _ ?_)
      by_cases hd : mz_i m2 (55, 0) 0 = 0
      · have hd1 : mz_i m1 (16, 0) 3 = 0 := hheld.trans hd
        have hq := ee_q_0 (ee_fin_0 (l1 := L1 5 n4) (l2 := L2 38 n4) hE t6.1 t1 t8 id) ds (qap (L1 9 0) (dg 226 ++ [13] ++ [10]))
        rw [lu_id, lu_id] at hq
        rw [if_pos hd] at h2'
        have h1r : A1 M1q _ (lu (lu (lu (if mz_i m1 (16, 0) 3 = 0 then L1 else lu L1 5 n4 (row24 (L1 5 n4) 13)) 17 0 []) 11 0 ds) 9 0 (qap ((if mz_i m1 (16, 0) 3 = 0 then L1 else lu L1 5 n4 (row24 (L1 5 n4) 13)) 9 0) (dg 226 ++ [13] ++ [10]))) := h1q
        rw [if_pos hd1] at h1r
        rw [q226] at hq h1r
        exact ⟨_, _, _, _, h1r, h2', hq, ⟨fun _ => rfl, rfl, rfl, rfl, rfl, rfl, rfl, rfl, rfl, rfl⟩⟩
      · have hd1 : ¬ mz_i m1 (16, 0) 3 = 0 := fun z => hd (hheld.symm.trans z)
        have hq := ee_q_0 (ee_fin_0 (l1 := row24 (L1 5 n4) 13) (l2 := row24 (L2 38 n4) 13) hE t6.1 t1 t8 (fun z => by rw [z])) ds (qap (L1 9 0) (dg 226 ++ [13] ++ [10]))
        rw [if_neg hd] at h2'
        have h1r : A1 M1q _ (lu (lu (lu (if mz_i m1 (16, 0) 3 = 0 then L1 else lu L1 5 n4 (row24 (L1 5 n4) 13)) 17 0 []) 11 0 ds) 9 0 (qap ((if mz_i m1 (16, 0) 3 = 0 then L1 else lu L1 5 n4 (row24 (L1 5 n4) 13)) 9 0) (dg 226 ++ [13] ++ [10]))) := h1q
        rw [if_neg hd1] at h1r
        have h1r' : A1 M1q _ (lu (lu (lu (lu L1 5 n4 (row24 (L1 5 n4) 13)) 17 0 []) 11 0 ds) 9 0 (qap (L1 9 0) (dg 226 ++ [13] ++ [10]))) := h1r
        rw [q226] at hq h1r'
        exact ⟨_, _, _, _, h1r', h2', hq, ⟨fun _ => rfl, rfl, rfl, rfl, rfl, rfl, rfl, rfl, rfl, rfl⟩⟩
theorem close_1 {m1 m2 M1 : MzM} {L1 L2 : MzV} {a : Int32} {K : MzM → Prop} (hE : EE m1 L1 m2 L2) (ha : a.toInt = ((1 : Nat) : Int)) (h1 : A1 M1 m1 L1) (hk : ∀ M1', (∀ (M2 : MzM) (K2 : MzM → Prop), A2 M2 m2 L2 → (∀ M2', OO m1 m2 M1' M2' → K2 M2') → wp_Mo_closeWay a M2 K2) → K M1') : wp_Ses_clientCloses 1 M1 K := by
  obtain ⟨s1, s2, s3, s4, s5, s6, s7, s8, s9, s10, s11, s12, s13, hmode, hheld, htr⟩ := hE.2.1
  have hy : mz_i M1 (16, 1) 1 = mz_i m2 (53, 0) 1 := (h1.1 _ _ rfl).trans hmode
  have hrr : mz_r M1 (16, 1) 4 = mz_r m1 (16, 1) 4 := h1.2.1 _ _
  have q426 : qap (L1 9 1) (dg 426 ++ [13] ++ [10]) = qap (L2 45 1) (dgo 426 ++ [13] ++ [10]) := by rw [s2, dg426]
  have q226 : qap (L1 9 1) (dg 226 ++ [13] ++ [10]) = qap (L2 45 1) (dgo 226 ++ [13] ++ [10]) := by rw [s2, dg226]
  have r0 : mz_i m2 (53, 0) 1 = 0 → ∀ (M2 : MzM) (K' : MzM → Prop), A2 M2 m2 L2 → (∀ M2', A2 M2' (rEnd (mz_si m2 (30, 0) 29 a) 1) L2 → K' M2') → wp_Mo_closeWay a M2 K' := by
    intro t1 M2 K' h2 hk'
    have e53 := h2.1 53 1 rfl
    refine ⟨1, ha, by decide, fun _ => ?_, fun h9 => absurd ((e53.trans t1).symm.trans h9) (by decide)⟩
    rintro _ rfl
    have h2' := h2.si (t := 30) (k := 29) (v := a) rfl
    refine ⟨1, ha, by decide, fun _ => mo_end_n h2' ha (by decide) (fun z => absurd (t1.symm.trans z) (by decide)) hk', fun h9 => absurd ((e53.trans t1).symm.trans h9) (by decide)⟩
  have r1 : mz_i m2 (53, 0) 1 = 1 → ∀ (M2 : MzM) (K' : MzM → Prop), A2 M2 m2 L2 → (∀ M2', A2 M2' (rEnd (mz_si (mz_si m2 (30, 0) 29 a) (30, 0) 30 (fa (mz_si m2 (30, 0) 29 a) 426)) 1) (lu L2 45 1 (qap (L2 45 1) (dgo 426 ++ [13] ++ [10]))) → K' M2') → wp_Mo_closeWay a M2 K' := by
    intro t1 M2 K' h2 hk'
    have e53 := h2.1 53 1 rfl
    refine ⟨1, ha, by decide, fun _ => ?_, fun h9 => absurd ((e53.trans t1).symm.trans h9) (by decide)⟩
    rintro _ rfl
    have h2' := h2.si (t := 30) (k := 29) (v := a) rfl
    refine ⟨1, ha, by decide, fun h9 => absurd (e53.trans t1) h9, fun _ => mo_answer h2' ha (by decide) (fun M3 h3 => mo_end_n h3 ha (by decide) (fun z => absurd (t1.symm.trans z) (by decide)) hk')⟩
  rcases htr with ⟨t1, t2, t3, t4, t5, t6⟩ | ⟨t1, t2, t3, t4, t5⟩ | ⟨t1, t2, t3, t4, t5, n, t6, t7, t8⟩
  · refine ⟨fun _ => pl_way_none h1 t2 (fun M1' h1' => ?_), fun n1 _ z => absurd (hrr.trans t2) (some3n z), Or.inl (hrr.trans t2)⟩
    rw [hy, t1]
    exact ⟨fun _ => ⟨fun _ => hk _ (fun M2 K2 h2 hk2 => r0 t1 M2 K2 h2 (fun M2' h2' => hk2 _ ⟨_, _, _, _, h1', h2', ee_none_1 hE t3, ⟨fun _ => rfl, rfl, rfl, rfl, rfl, rfl, rfl, rfl, rfl, rfl⟩⟩)), fun h9 => absurd h9 (by decide)⟩, fun h9 => absurd h9 (by decide)⟩
  · rcases t5 with ⟨t5, t6⟩ | ⟨n, t6, t7, t8⟩
    · refine ⟨fun _ => pl_way_none h1 t5 (fun M1' h1' => ?_), fun n1 _ z => absurd (hrr.trans t5) (some3n z), Or.inl (hrr.trans t5)⟩
      rw [hy, t1]
      refine ⟨fun _ => ⟨fun h9 => absurd rfl h9, fun _ => pl_answer5 h1' (by decide) (by decide) (fun M1q ds h1q => hk _ (fun M2 K2 h2 hk2 => r1 t1 M2 K2 h2 (fun M2' h2' => hk2 _ ⟨_, _, _, _, h1q, h2', ?_, ⟨fun _ => rfl, rfl, rfl, rfl, rfl, rfl, rfl, rfl, rfl, rfl⟩⟩)))⟩, fun h9 => absurd h9 (by decide)⟩
      have hq := ee_q_1 (ee_none_1 hE t6) ds (qap (L1 9 1) (dg 426 ++ [13] ++ [10]))
      rw [← q426]
      exact hq
    · refine ⟨fun z => absurd z (some3n (hrr.trans t7)), fun n1 _ z => ⟨fun _ => pl_way_send h1 t6.1 t7 (hmode.trans t1) (fun M1' h1' => ?_), fun h9 => absurd ((hy.trans t1).symm.trans h9) (by decide)⟩, Or.inr ⟨n, t6.1, hrr.trans t7⟩⟩
      rw [hy, t1]
      refine ⟨fun _ => ⟨fun h9 => absurd rfl h9, fun _ => pl_answer5 h1' (by decide) (by decide) (fun M1q ds h1q => hk _ (fun M2 K2 h2 hk2 => r1 t1 M2 K2 h2 (fun M2' h2' => hk2 _ ⟨_, _, _, _, h1q, h2', ?_, ⟨fun _ => rfl, rfl, rfl, rfl, rfl, rfl, rfl, rfl, rfl, rfl⟩⟩)))⟩, fun h9 => absurd h9 (by decide)⟩
      have hq := ee_q_1 (ee_send_1 hE t6.1 t1 t8) ds (qap (L1 9 1) (dg 426 ++ [13] ++ [10]))
      rw [← q426]
      exact hq
  · refine ⟨fun z => absurd z (some3n (hrr.trans t7)), fun n1 _ z => ⟨fun h9 => absurd (hy.trans t1) h9, fun _ => ⟨fun z => absurd z (some3n (hrr.trans t7)), fun n4 _ z4 => ?_, Or.inr ⟨n, t6.1, hrr.trans t7⟩⟩⟩, Or.inr ⟨n, t6.1, hrr.trans t7⟩⟩
    have e4 := some3 (hrr.trans t7) z4
    subst e4
    rintro _ rfl
    have h1u := h1.si (o := (3, n4)) (k := 6) (v := 0) rfl
    refine pl_way_recv h1u t6.1 t7 (hmode.trans t1) (fun M1' h1' => ?_)
    rw [hy, t1]
    refine ⟨fun h9 => absurd rfl h9, fun _ => pl_answer5 h1' (by decide) (by decide) (fun M1q ds h1q => ⟨fun _ => hk _ (fun M2 K2 h2 hk2 => ?_), fun h9 => absurd h9 (by decide)⟩)⟩
    have e53 := h2.1 53 1 rfl
    have e54 := h2.1 54 1 rfl
    refine ⟨1, ha, by decide, fun h9 => absurd (e53.trans t1) h9, fun _ => ⟨1, ha, by decide, fun h9 => absurd (e53.trans t1) h9, fun _ => ⟨1, ha, by decide, ?_⟩⟩⟩
    refine mo_end_h (n := n4) h2 ha (by decide) t1 t6.1 t8 (fun M3 h3 => ⟨fun h9 => ?_, fun _ => ⟨n4, ?_, t6.1, ?_⟩⟩)
    · rw [e54, t8] at h9
      have z := (ilt (n := 0) (itn (n := n4) (by have := t6.1; omega)) rfl).mp h9
      exact absurd z (by omega)
    · rw [e54, t8]
      exact itn (by have := t6.1; omega)
    · rintro _ rfl _ rfl
      have h4 := h3.si (t := 37) (k := n4) (v := 1) rfl
      have h5 := h4.si (t := 30) (k := 29) (v := a) rfl
      refine mo_answer h5 ha (by decide) (fun M2' h2' => hk2 _ ?_)
      by_cases hd : mz_i m2 (55, 0) 1 = 0
      · have hd1 : mz_i m1 (16, 1) 3 = 0 := hheld.trans hd
        have hq := ee_q_1 (ee_fin_1 (l1 := L1 5 n4) (l2 := L2 38 n4) hE t6.1 t1 t8 id) ds (qap (L1 9 1) (dg 226 ++ [13] ++ [10]))
        rw [lu_id, lu_id] at hq
        rw [if_pos hd] at h2'
        have h1r : A1 M1q _ (lu (lu (lu (if mz_i m1 (16, 1) 3 = 0 then L1 else lu L1 5 n4 (row24 (L1 5 n4) 13)) 17 1 []) 11 1 ds) 9 1 (qap ((if mz_i m1 (16, 1) 3 = 0 then L1 else lu L1 5 n4 (row24 (L1 5 n4) 13)) 9 1) (dg 226 ++ [13] ++ [10]))) := h1q
        rw [if_pos hd1] at h1r
        rw [q226] at hq h1r
        exact ⟨_, _, _, _, h1r, h2', hq, ⟨fun _ => rfl, rfl, rfl, rfl, rfl, rfl, rfl, rfl, rfl, rfl⟩⟩
      · have hd1 : ¬ mz_i m1 (16, 1) 3 = 0 := fun z => hd (hheld.symm.trans z)
        have hq := ee_q_1 (ee_fin_1 (l1 := row24 (L1 5 n4) 13) (l2 := row24 (L2 38 n4) 13) hE t6.1 t1 t8 (fun z => by rw [z])) ds (qap (L1 9 1) (dg 226 ++ [13] ++ [10]))
        rw [if_neg hd] at h2'
        have h1r : A1 M1q _ (lu (lu (lu (if mz_i m1 (16, 1) 3 = 0 then L1 else lu L1 5 n4 (row24 (L1 5 n4) 13)) 17 1 []) 11 1 ds) 9 1 (qap ((if mz_i m1 (16, 1) 3 = 0 then L1 else lu L1 5 n4 (row24 (L1 5 n4) 13)) 9 1) (dg 226 ++ [13] ++ [10]))) := h1q
        rw [if_neg hd1] at h1r
        have h1r' : A1 M1q _ (lu (lu (lu (lu L1 5 n4 (row24 (L1 5 n4) 13)) 17 1 []) 11 1 ds) 9 1 (qap (L1 9 1) (dg 226 ++ [13] ++ [10]))) := h1r
        rw [q226] at hq h1r'
        exact ⟨_, _, _, _, h1r', h2', hq, ⟨fun _ => rfl, rfl, rfl, rfl, rfl, rfl, rfl, rfl, rfl, rfl⟩⟩
theorem rr_close : sim_close RR := by
  intro M1 M2 ov a hl1 hl2 hR
  obtain ⟨m1, L1, m2, L2, h1, h2, hE⟩ := hR
  unfold wh_Law_close wp_PL_close
  refine pz_ses (fun h => ⟨fun _ => ?_, fun h9 => absurd h9 (by decide)⟩) (fun h => ⟨fun h9 => absurd rfl h9, fun _ => Or.inl ⟨rfl, ?_⟩⟩)
  · obtain ⟨x, hx, hx2⟩ := i32_01 h
    have e52 : mz_i M1 (16, x) 0 = mz_i m2 (52, 0) x := (h1.1 _ _ rfl).trans (hE.ses hx2).2.2.2.2.2.2.2.2.2.2.2.2.1
    refine ⟨x, hx, hx2, fun h0 => ⟨x, hx, hx2, ?_⟩, fun h0 => Or.inr ⟨rfl, ?_⟩⟩
    · rw [e52] at h0
      have go : ∀ K : MzM → Prop, (∀ M1', (∀ (M2 : MzM) (K2 : MzM → Prop), A2 M2 (mz_si m2 (30, 0) 1 0) L2 → (∀ M2', OO m1 (mz_si m2 (30, 0) 1 0) M1' M2' → K2 M2') → wp_Mo_closeWay a M2 K2) → K M1') → wp_Ses_clientCloses x M1 K := by
        intro K hk
        have hx' : x = 0 ∨ x = 1 := by omega
        rcases hx' with rfl | rfl
        · exact close_0 hE.thr hx h1 hk
        · exact close_1 hE.thr hx h1 hk
      refine go _ (fun M1' hc => ?_)
      intro N hN
      have h2' : A2 N (mz_si m2 (30, 0) 1 0) L2 := by rw [hN]; exact h2.si (t := 30) rfl
      refine mo_ses (fun _ => ⟨fun _ => ⟨x, hx, hx2, fun _ => hc N _ h2' (fun M2' hO => ⟨hO.thr, hO.rr⟩), fun h9 => absurd ((h2'.1 52 x rfl).symm.trans h9) h0⟩, fun h9 => absurd h9 (by decide)⟩) (fun h9 => absurd h h9)
    · rw [e52] at h0
      rintro M rfl
      refine mo_ses (fun _ => ⟨fun _ => ⟨x, hx, hx2, fun h9 => absurd ((h2.1 52 x rfl).trans h0) h9, fun _ => ?_⟩, fun h9 => absurd h9 (by decide)⟩) (fun h9 => absurd h h9)
      rintro M rfl
      exact ⟨rfl, m1, L1, _, L2, h1, (h2.si (t := 30) (k := 1) (v := 0) rfl).si (t := 30) (k := 1) (v := 2) rfl, (hE.c30 0).c30 2⟩
  · rintro M rfl
    refine mo_ses (fun h9 => absurd h9 h) (fun _ => ⟨fun h9 => absurd rfl h9, fun _ => ?_⟩)
    rintro M rfl
    exact ⟨rfl, m1, L1, _, L2, h1, (h2.si (t := 30) (k := 1) (v := 0) rfl).si (t := 30) (k := 1) (v := 1) rfl, (hE.c30 0).c30 1⟩
