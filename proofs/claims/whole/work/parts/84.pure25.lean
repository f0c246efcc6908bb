theorem A2.set_same {M m : MzM} {L : MzV} (h : A2 M m L) {t k : Nat} {v : Int32} (hv : vis2 t = true) (e : mz_i m (t, 0) k = v) : A2 M (mz_si m (t, 0) k v) L := by
  refine ⟨fun p q hpq => ?_, h.2⟩
  rw [mz_i_si]
  by_cases z : (p, 0) = (t, 0) ∧ q = k
  · have zp : p = t := congrArg Prod.fst z.1
    rw [if_pos z, h.1 p q hpq, ← e, z.2, zp]
  · rw [if_neg z]
    exact h.1 p q hpq
theorem A1.set_same {M m : MzM} {L : MzV} (h : A1 M m L) {o : MzL} {k : Nat} {v : Int32} (e : mz_i m o k = v) : A1 M (mz_si m o k v) L := by
  refine ⟨fun p q hpq => ?_, h.2⟩
  rw [mz_i_si]
  by_cases z : p = o ∧ q = k
  · rw [if_pos z, h.1 p q hpq, ← e, z.1, z.2]
  · rw [if_neg z]
    exact h.1 p q hpq
theorem or4 {b : Int32} (h1 : ¬ b < 251) (h2 : ¬ 254 < b) : b = 251 ∨ b = 252 ∨ b = 253 ∨ b = 254 := by
  have q1 : ¬ b.toInt < 251 := fun q => h1 ((ilt (n := 251) rfl rfl).mpr q)
  have q2 : ¬ 254 < b.toInt := fun q => h2 ((ilt (m := 254) rfl rfl).mpr q)
  have q3 : b.toInt = 251 ∨ b.toInt = 252 ∨ b.toInt = 253 ∨ b.toInt = 254 := by omega
  rcases q3 with q | q | q | q
  · exact Or.inl (Int32.toInt_inj.mp q)
  · exact Or.inr (Or.inl (Int32.toInt_inj.mp q))
  · exact Or.inr (Or.inr (Or.inl (Int32.toInt_inj.mp q)))
  · exact Or.inr (Or.inr (Or.inr (Int32.toInt_inj.mp q)))
theorem rd_0 {m1 m2 M1 : MzM} {L1 L2 : MzV} {a b : Int32} {K : Int32 → MzM → Prop} (hE : EE m1 L1 m2 L2) (ha : a.toInt = ((0 : Nat) : Int)) (h1 : A1 M1 m1 L1) (hk0 : ∀ M1', (∀ (M2 : MzM) (K2 : MzM → Prop), A2 M2 m2 L2 → (∀ M2', OB m1 m2 0 b M1' M2' → K2 M2') → wp_Mo_take1 a b M2 K2) → K 0 M1') (hk1 : mz_i m2 (39, 0) 0 = 0 → ¬ mz_i m2 (40, 0) 0 = 0 → b = 10 → ∀ M1', A1 M1' (mz_si (mz_si m1 (12, 0) 4 0) (12, 0) 5 0) L1 → K 1 M1') : wp_Lin_readByte 0 b M1 K := by
  obtain ⟨s1, s2, s3, s4, s5, s6, s7, s8, s9, s10, s11, s12, s13, s14, s15, s16⟩ := hE.1
  have e4 : mz_i M1 (12, 0) 4 = mz_i m1 (12, 0) 4 := h1.1 _ _ rfl
  rintro _ rfl
  have h1' := h1.si (o := (12, 0)) (k := 4) (v := 0) rfl
  rw [e4]
  rcases s4 with ⟨o2, o1⟩ | ⟨o2, o1⟩ | ⟨o1, o2⟩
  · rw [o1]
    refine ⟨fun h9 => absurd rfl h9, fun _ => ⟨fun hb => ?_, fun hb => ?_⟩⟩
    · rintro _ rfl
      have h3 := h1'.si (o := (12, 0)) (k := 4) (v := 255) rfl
      refine hk0 _ (fun M2 K2 h2 kk => ?_)
      have e39 : mz_i M2 (39, 0) 0 = 0 := (h2.1 39 0 rfl).trans o2
      refine ⟨0, ha, by decide, fun _ => ⟨0, ha, by decide, fun _ => ⟨fun h9 => absurd hb h9, fun _ => ⟨0, ha, by decide, ?_⟩⟩, fun h9 => absurd (e39.symm.trans h9) (by decide)⟩, fun h9 => absurd (by rw [e39]; decide) h9⟩
      rintro _ rfl
      refine kk _ ⟨_, _, _, _, h3, h2.si (t := 39) (k := 0) (v := 1) rfl, ⟨⟨s1, s2, s3, Or.inr (Or.inl ⟨rfl, rfl⟩), s5, s6, s7, s8, s9, s10, s11, s12, s13, s14, s15, s16⟩, hE.2⟩, ⟨fun _ => rfl, rfl, rfl, rfl, rfl, rfl, rfl, rfl, rfl, rfl⟩, fun z => ?_, fun _ z => ?_⟩
      · rw [hb] at z
        exact absurd z (by decide)
      · rw [hb] at z
        exact absurd z (by decide)
    · by_cases hle : ¬ mz_i m2 (40, 0) 0 = 0 ∧ b = 10
      · have e5 : mz_i (mz_si M1 (12, 0) 4 0) (12, 0) 5 = mz_i m2 (40, 0) 0 := (h1.1 _ _ rfl).trans s5
        rintro _ rfl
        rw [e5]
        exact ⟨fun z => absurd z hle.1, fun _ => ⟨fun z => absurd hle.2 z, fun _ => ⟨Or.inr rfl, hk1 o2 hle.1 hle.2 _ (h1'.si (o := (12, 0)) (k := 5) (v := 0) rfl)⟩⟩⟩
      · refine plain_0 hE ha hle h1' (fun M1' hr => ⟨Or.inl rfl, hk0 M1' (fun M2 K2 h2 kk => ?_)⟩)
        have e39 : mz_i M2 (39, 0) 0 = 0 := (h2.1 39 0 rfl).trans o2
        refine ⟨0, ha, by decide, fun _ => ⟨0, ha, by decide, fun _ => ⟨fun _ => hr M2 _ (h2.set_same (t := 39) (k := 0) rfl o2) (fun M2' m1' L1' m2' L2' k1 k2 k3 k4 k5 k6 k7 => kk M2' ⟨m1', L1', m2', L2', k1, k2, k3, k4, fun _ => k5, fun _ _ => ⟨k6, k7⟩⟩), fun h9 => absurd h9 hb⟩, fun h9 => absurd (e39.symm.trans h9) (by decide)⟩, fun h9 => absurd (by rw [e39]; decide) h9⟩
  · rw [o1]
    refine ⟨fun _ => ⟨fun h9 => absurd rfl h9, fun _ => ⟨fun hb => ?_, fun hb => ?_⟩⟩, fun h9 => absurd h9 (by decide)⟩
    · have rf : ∀ (M1' : MzM) (w : Int32), A1 M1' (mz_si (mz_si m1 (12, 0) 4 0) (12, 0) 4 w) L1 → ordE w w → (b < 251 → w = 0) → (∀ (M2 : MzM) (K2 : MzM → Prop), A2 M2 m2 L2 → wp_Mo_take1_127 K2 a b w a M2 → wp_Mo_take1 a b M2 K2) → K 0 M1' := by
        intro M1' w hw ho hz hr
        refine hk0 M1' (fun M2 K2 h2 kk => hr M2 K2 h2 ⟨0, ha, by decide, ?_⟩)
        rintro _ rfl
        refine ⟨fun _ => kk _ ⟨_, _, _, _, hw, h2.si (t := 39) (k := 0) (v := w) rfl, ⟨⟨s1, s2, s3, ho, s5, s6, s7, s8, s9, s10, s11, s12, s13, s14, s15, s16⟩, hE.2⟩, ⟨fun _ => rfl, rfl, rfl, rfl, rfl, rfl, rfl, rfl, rfl, rfl⟩, fun z => hz z, fun z => absurd (o2.symm.trans z) (by decide)⟩, fun h9 => absurd h9 hb⟩
      have rq : ∀ (M2 : MzM) (K2 : MzM → Prop), A2 M2 m2 L2 → ((b < 251 → wp_Mo_take1_126 K2 a b a M2) ∧ (¬ b < 251 → ((254 < b → wp_Mo_take1_126 K2 a b a M2) ∧ (¬ 254 < b → wp_Mo_take1_127 K2 a b b a M2)))) → wp_Mo_take1 a b M2 K2 := by
        intro M2 K2 h2 hr
        have e39 : mz_i M2 (39, 0) 0 = 1 := (h2.1 39 0 rfl).trans o2
        exact ⟨0, ha, by decide, fun _ => ⟨0, ha, by decide, fun h9 => absurd e39 h9, fun _ => hr⟩, fun h9 => absurd (by rw [e39]; decide) h9⟩
      refine ⟨fun g1 => ?_, fun g1 => ⟨fun g2 => ?_, fun g2 => ?_⟩⟩
      · rintro _ rfl
        exact rf _ 0 (h1'.si (o := (12, 0)) (k := 4) (v := 0) rfl) (Or.inl ⟨rfl, rfl⟩) (fun _ => rfl) (fun M2 K2 h2 g => rq M2 K2 h2 ⟨fun _ => g, fun h9 => absurd g1 h9⟩)
      · rintro _ rfl
        exact rf _ 0 (h1'.si (o := (12, 0)) (k := 4) (v := 0) rfl) (Or.inl ⟨rfl, rfl⟩) (fun _ => rfl) (fun M2 K2 h2 g => rq M2 K2 h2 ⟨fun h9 => absurd h9 g1, fun _ => ⟨fun _ => g, fun h9 => absurd g2 h9⟩⟩)
      · rintro _ rfl
        exact rf _ b (h1'.si (o := (12, 0)) (k := 4) (v := b) rfl) (Or.inr (Or.inr ⟨rfl, or4 g1 g2⟩)) (fun z => absurd z g1) (fun M2 K2 h2 g => rq M2 K2 h2 ⟨fun h9 => absurd h9 g1, fun _ => ⟨fun h9 => absurd h9 g2, fun _ => g⟩⟩)
    · subst hb
      refine plain_0 hE ha (fun z => absurd z.2 (by decide)) h1' (fun M1' hr => ⟨Or.inl rfl, hk0 M1' (fun M2 K2 h2 kk => ?_)⟩)
      have e39 : mz_i M2 (39, 0) 0 = 1 := (h2.1 39 0 rfl).trans o2
      refine ⟨0, ha, by decide, fun _ => ⟨0, ha, by decide, fun h9 => absurd e39 h9, fun _ => ⟨fun h9 => absurd h9 (by decide), fun _ => ⟨fun _ => ⟨0, ha, by decide, ?_⟩, fun h9 => absurd (by decide) h9⟩⟩⟩, fun h9 => absurd (by rw [e39]; decide) h9⟩
      rintro _ rfl
      exact ⟨fun h9 => absurd rfl h9, fun _ => hr _ _ (h2.si (t := 39) (k := 0) (v := 0) rfl) (fun M2' m1' L1' m2' L2' k1 k2 k3 k4 k5 k6 k7 => kk M2' ⟨m1', L1', m2', L2', k1, k2, k3, k4, fun _ => k5, fun _ _ => ⟨k6, k7⟩⟩)⟩
  · have n0 : ¬ mz_i m1 (12, 0) 4 = 0 := by rw [o1]; rcases o2 with q | q | q | q <;> rw [q] <;> decide
    have n255 : ¬ mz_i m1 (12, 0) 4 = 255 := by rw [o1]; rcases o2 with q | q | q | q <;> rw [q] <;> decide
    have nle : ¬ mz_i m2 (39, 0) 0 ≤ 1 := by rcases o2 with q | q | q | q <;> rw [q] <;> decide
    refine ⟨fun _ => ⟨fun _ => ?_, fun h9 => absurd h9 n255⟩, fun h9 => absurd h9 n0⟩
    have hq : ∀ (M2 : MzM) (K2 : MzM → Prop), A2 M2 m2 L2 → (((mz_i m2 (39, 0) 0 = 253 ∨ mz_i m2 (39, 0) 0 = 251) → wp_Mo_take1_34 K2 a b M2) ∧ (¬ mz_i m2 (39, 0) 0 = 253 → ¬ mz_i m2 (39, 0) 0 = 251 → ∀ M2', A2 M2' (mz_si m2 (39, 0) 0 0) L2 → K2 M2')) → wp_Mo_take1 a b M2 K2 := by
      intro M2 K2 h2 hr
      have e39 := h2.1 39 0 rfl
      refine ⟨0, ha, by decide, fun h9 => absurd (by rw [← e39]; exact h9) nle, fun _ => ⟨0, ha, by decide, fun z => hr.1 (Or.inl (e39.symm.trans z)), fun z => ⟨0, ha, by decide, fun z2 => ⟨0, ha, by decide, ?_⟩, fun z2 => hr.1 (Or.inr (e39.symm.trans z2))⟩⟩⟩
      rintro _ rfl
      exact hr.2 (fun q => z (e39.trans q)) (fun q => z2 (e39.trans q)) _ (h2.si (t := 39) (k := 0) (v := 0) rfl)
    by_cases o253 : mz_i m1 (12, 0) 4 = 253
    · have o2' : mz_i m2 (39, 0) 0 = 253 := o1.symm.trans o253
      refine ⟨fun h9 => absurd o253 h9, fun _ => pl_answerOrder h1' (fun M1' ds h3 => ⟨fun _ => hk0 M1' (fun M2 K2 h2 kk => hq M2 K2 h2 ⟨fun _ => mo_order (k := 252) h2 ha (by decide) (Or.inl ⟨o2', rfl⟩) (fun M2' h2' => kk M2' ⟨_, _, _, _, h3, h2', ?_, ⟨fun _ => rfl, rfl, rfl, rfl, rfl, rfl, rfl, rfl, rfl, rfl⟩, fun _ => rfl, fun z => absurd (o2'.symm.trans z) (by decide)⟩), fun z => absurd o2' z⟩), fun h9 => absurd (o253.symm.trans h9) (by decide)⟩)⟩
      rw [← s2]
      exact ⟨⟨s1, rfl, s3, Or.inl ⟨rfl, rfl⟩, s5, s6, s7, s8, s9, s10, s11, s12, s13, s14, s15, s16⟩, hE.2⟩
    · by_cases o251 : mz_i m1 (12, 0) 4 = 251
      · have o2' : mz_i m2 (39, 0) 0 = 251 := o1.symm.trans o251
        refine ⟨fun _ => ⟨fun h9 => absurd o251 h9, fun _ => pl_answerOrder h1' (fun M1' ds h3 => hk0 M1' (fun M2 K2 h2 kk => hq M2 K2 h2 ⟨fun _ => mo_order (k := 254) h2 ha (by decide) (Or.inr ⟨o2', rfl⟩) (fun M2' h2' => kk M2' ⟨_, _, _, _, h3, h2', ?_, ⟨fun _ => rfl, rfl, rfl, rfl, rfl, rfl, rfl, rfl, rfl, rfl⟩, fun _ => rfl, fun z => absurd (o2'.symm.trans z) (by decide)⟩), fun _ z => absurd o2' z⟩))⟩, fun h9 => absurd h9 o253⟩
        rw [← s2]
        exact ⟨⟨s1, rfl, s3, Or.inl ⟨rfl, rfl⟩, s5, s6, s7, s8, s9, s10, s11, s12, s13, s14, s15, s16⟩, hE.2⟩
      · refine ⟨fun _ => ⟨fun _ => hk0 _ (fun M2 K2 h2 kk => hq M2 K2 h2 ⟨fun z => absurd z (fun z => z.elim (fun z => o253 (o1.trans z)) (fun z => o251 (o1.trans z))), fun _ _ M2' h2' => kk M2' ⟨_, _, _, _, h1', h2', ⟨⟨s1, s2, s3, Or.inl ⟨rfl, rfl⟩, s5, s6, s7, s8, s9, s10, s11, s12, s13, s14, s15, s16⟩, hE.2⟩, ⟨fun _ => rfl, rfl, rfl, rfl, rfl, rfl, rfl, rfl, rfl, rfl⟩, fun _ => rfl, fun z => absurd (by rw [z]; decide) nle⟩⟩), fun h9 => absurd h9 o251⟩, fun h9 => absurd h9 o253⟩
theorem rd_1 {m1 m2 M1 : MzM} {L1 L2 : MzV} {a b : Int32} {K : Int32 → MzM → Prop} (hE : EE m1 L1 m2 L2) (ha : a.toInt = ((1 : Nat) : Int)) (h1 : A1 M1 m1 L1) (hk0 : ∀ M1', (∀ (M2 : MzM) (K2 : MzM → Prop), A2 M2 m2 L2 → (∀ M2', OB m1 m2 1 b M1' M2' → K2 M2') → wp_Mo_take1 a b M2 K2) → K 0 M1') (hk1 : mz_i m2 (39, 0) 1 = 0 → ¬ mz_i m2 (40, 0) 1 = 0 → b = 10 → ∀ M1', A1 M1' (mz_si (mz_si m1 (12, 1) 4 0) (12, 1) 5 0) L1 → K 1 M1') : wp_Lin_readByte 1 b M1 K := by
  obtain ⟨s1, s2, s3, s4, s5, s6, s7, s8, s9, s10, s11, s12, s13, s14, s15, s16⟩ := hE.2.1
  have e4 : mz_i M1 (12, 1) 4 = mz_i m1 (12, 1) 4 := h1.1 _ _ rfl
  rintro _ rfl
  have h1' := h1.si (o := (12, 1)) (k := 4) (v := 0) rfl
  rw [e4]
  rcases s4 with ⟨o2, o1⟩ | ⟨o2, o1⟩ | ⟨o1, o2⟩
  · rw [o1]
    refine ⟨fun h9 => absurd rfl h9, fun _ => ⟨fun hb => ?_, fun hb => ?_⟩⟩
    · rintro _ rfl
      have h3 := h1'.si (o := (12, 1)) (k := 4) (v := 255) rfl
      refine hk0 _ (fun M2 K2 h2 kk => ?_)
      have e39 : mz_i M2 (39, 0) 1 = 0 := (h2.1 39 1 rfl).trans o2
      refine ⟨1, ha, by decide, fun _ => ⟨1, ha, by decide, fun _ => ⟨fun h9 => absurd hb h9, fun _ => ⟨1, ha, by decide, ?_⟩⟩, fun h9 => absurd (e39.symm.trans h9) (by decide)⟩, fun h9 => absurd (by rw [e39]; decide) h9⟩
      rintro _ rfl
      refine kk _ ⟨_, _, _, _, h3, h2.si (t := 39) (k := 1) (v := 1) rfl, ⟨hE.1, ⟨s1, s2, s3, Or.inr (Or.inl ⟨rfl, rfl⟩), s5, s6, s7, s8, s9, s10, s11, s12, s13, s14, s15, s16⟩, hE.2.2⟩, ⟨fun _ => rfl, rfl, rfl, rfl, rfl, rfl, rfl, rfl, rfl, rfl⟩, fun z => ?_, fun _ z => ?_⟩
      · rw [hb] at z
        exact absurd z (by decide)
      · rw [hb] at z
        exact absurd z (by decide)
    · by_cases hle : ¬ mz_i m2 (40, 0) 1 = 0 ∧ b = 10
      · have e5 : mz_i (mz_si M1 (12, 1) 4 0) (12, 1) 5 = mz_i m2 (40, 0) 1 := (h1.1 _ _ rfl).trans s5
        rintro _ rfl
        rw [e5]
        exact ⟨fun z => absurd z hle.1, fun _ => ⟨fun z => absurd hle.2 z, fun _ => ⟨Or.inr rfl, hk1 o2 hle.1 hle.2 _ (h1'.si (o := (12, 1)) (k := 5) (v := 0) rfl)⟩⟩⟩
      · refine plain_1 hE ha hle h1' (fun M1' hr => ⟨Or.inl rfl, hk0 M1' (fun M2 K2 h2 kk => ?_)⟩)
        have e39 : mz_i M2 (39, 0) 1 = 0 := (h2.1 39 1 rfl).trans o2
        refine ⟨1, ha, by decide, fun _ => ⟨1, ha, by decide, fun _ => ⟨fun _ => hr M2 _ (h2.set_same (t := 39) (k := 1) rfl o2) (fun M2' m1' L1' m2' L2' k1 k2 k3 k4 k5 k6 k7 => kk M2' ⟨m1', L1', m2', L2', k1, k2, k3, k4, fun _ => k5, fun _ _ => ⟨k6, k7⟩⟩), fun h9 => absurd h9 hb⟩, fun h9 => absurd (e39.symm.trans h9) (by decide)⟩, fun h9 => absurd (by rw [e39]; decide) h9⟩
  · rw [o1]
    refine ⟨fun _ => ⟨fun h9 => absurd rfl h9, fun _ => ⟨fun hb => ?_, fun hb => ?_⟩⟩, fun h9 => absurd h9 (by decide)⟩
    · have rf : ∀ (M1' : MzM) (w : Int32), A1 M1' (mz_si (mz_si m1 (12, 1) 4 0) (12, 1) 4 w) L1 → ordE w w → (b < 251 → w = 0) → (∀ (M2 : MzM) (K2 : MzM → Prop), A2 M2 m2 L2 → wp_Mo_take1_127 K2 a b w a M2 → wp_Mo_take1 a b M2 K2) → K 0 M1' := by
        intro M1' w hw ho hz hr
        refine hk0 M1' (fun M2 K2 h2 kk => hr M2 K2 h2 ⟨1, ha, by decide, ?_⟩)
        rintro _ rfl
        refine ⟨fun _ => kk _ ⟨_, _, _, _, hw, h2.si (t := 39) (k := 1) (v := w) rfl, ⟨hE.1, ⟨s1, s2, s3, ho, s5, s6, s7, s8, s9, s10, s11, s12, s13, s14, s15, s16⟩, hE.2.2⟩, ⟨fun _ => rfl, rfl, rfl, rfl, rfl, rfl, rfl, rfl, rfl, rfl⟩, fun z => hz z, fun z => absurd (o2.symm.trans z) (by decide)⟩, fun h9 => absurd h9 hb⟩
      have rq : ∀ (M2 : MzM) (K2 : MzM → Prop), A2 M2 m2 L2 → ((b < 251 → wp_Mo_take1_126 K2 a b a M2) ∧ (¬ b < 251 → ((254 < b → wp_Mo_take1_126 K2 a b a M2) ∧ (¬ 254 < b → wp_Mo_take1_127 K2 a b b a M2)))) → wp_Mo_take1 a b M2 K2 := by
        intro M2 K2 h2 hr
        have e39 : mz_i M2 (39, 0) 1 = 1 := (h2.1 39 1 rfl).trans o2
        exact ⟨1, ha, by decide, fun _ => ⟨1, ha, by decide, fun h9 => absurd e39 h9, fun _ => hr⟩, fun h9 => absurd (by rw [e39]; decide) h9⟩
      refine ⟨fun g1 => ?_, fun g1 => ⟨fun g2 => ?_, fun g2 => ?_⟩⟩
      · rintro _ rfl
        exact rf _ 0 (h1'.si (o := (12, 1)) (k := 4) (v := 0) rfl) (Or.inl ⟨rfl, rfl⟩) (fun _ => rfl) (fun M2 K2 h2 g => rq M2 K2 h2 ⟨fun _ => g, fun h9 => absurd g1 h9⟩)
      · rintro _ rfl
        exact rf _ 0 (h1'.si (o := (12, 1)) (k := 4) (v := 0) rfl) (Or.inl ⟨rfl, rfl⟩) (fun _ => rfl) (fun M2 K2 h2 g => rq M2 K2 h2 ⟨fun h9 => absurd h9 g1, fun _ => ⟨fun _ => g, fun h9 => absurd g2 h9⟩⟩)
      · rintro _ rfl
        exact rf _ b (h1'.si (o := (12, 1)) (k := 4) (v := b) rfl) (Or.inr (Or.inr ⟨rfl, or4 g1 g2⟩)) (fun z => absurd z g1) (fun M2 K2 h2 g => rq M2 K2 h2 ⟨fun h9 => absurd h9 g1, fun _ => ⟨fun h9 => absurd h9 g2, fun _ => g⟩⟩)
    · subst hb
      refine plain_1 hE ha (fun z => absurd z.2 (by decide)) h1' (fun M1' hr => ⟨Or.inl rfl, hk0 M1' (fun M2 K2 h2 kk => ?_)⟩)
      have e39 : mz_i M2 (39, 0) 1 = 1 := (h2.1 39 1 rfl).trans o2
      refine ⟨1, ha, by decide, fun _ => ⟨1, ha, by decide, fun h9 => absurd e39 h9, fun _ => ⟨fun h9 => absurd h9 (by decide), fun _ => ⟨fun _ => ⟨1, ha, by decide, ?_⟩, fun h9 => absurd (by decide) h9⟩⟩⟩, fun h9 => absurd (by rw [e39]; decide) h9⟩
      rintro _ rfl
      exact ⟨fun h9 => absurd rfl h9, fun _ => hr _ _ (h2.si (t := 39) (k := 1) (v := 0) rfl) (fun M2' m1' L1' m2' L2' k1 k2 k3 k4 k5 k6 k7 => kk M2' ⟨m1', L1', m2', L2', k1, k2, k3, k4, fun _ => k5, fun _ _ => ⟨k6, k7⟩⟩)⟩
  · have n0 : ¬ mz_i m1 (12, 1) 4 = 0 := by rw [o1]; rcases o2 with q | q | q | q <;> rw [q] <;> decide
    have n255 : ¬ mz_i m1 (12, 1) 4 = 255 := by rw [o1]; rcases o2 with q | q | q | q <;> rw [q] <;> decide
    have nle : ¬ mz_i m2 (39, 0) 1 ≤ 1 := by rcases o2 with q | q | q | q <;> rw [q] <;> decide
    refine ⟨fun _ => ⟨fun _ => ?_, fun h9 => absurd h9 n255⟩, fun h9 => absurd h9 n0⟩
    have hq : ∀ (M2 : MzM) (K2 : MzM → Prop), A2 M2 m2 L2 → (((mz_i m2 (39, 0) 1 = 253 ∨ mz_i m2 (39, 0) 1 = 251) → wp_Mo_take1_34 K2 a b M2) ∧ (¬ mz_i m2 (39, 0) 1 = 253 → ¬ mz_i m2 (39, 0) 1 = 251 → ∀ M2', A2 M2' (mz_si m2 (39, 0) 1 0) L2 → K2 M2')) → wp_Mo_take1 a b M2 K2 := by
      intro M2 K2 h2 hr
      have e39 := h2.1 39 1 rfl
      refine ⟨1, ha, by decide, fun h9 => absurd (by rw [← e39]; exact h9) nle, fun _ => ⟨1, ha, by decide, fun z => hr.1 (Or.inl (e39.symm.trans z)), fun z => ⟨1, ha, by decide, fun z2 => ⟨1, ha, by decide, ?_⟩, fun z2 => hr.1 (Or.inr (e39.symm.trans z2))⟩⟩⟩
      rintro _ rfl
      exact hr.2 (fun q => z (e39.trans q)) (fun q => z2 (e39.trans q)) _ (h2.si (t := 39) (k := 1) (v := 0) rfl)
    by_cases o253 : mz_i m1 (12, 1) 4 = 253
    · have o2' : mz_i m2 (39, 0) 1 = 253 := o1.symm.trans o253
      refine ⟨fun h9 => absurd o253 h9, fun _ => pl_answerOrder h1' (fun M1' ds h3 => ⟨fun _ => hk0 M1' (fun M2 K2 h2 kk => hq M2 K2 h2 ⟨fun _ => mo_order (k := 252) h2 ha (by decide) (Or.inl ⟨o2', rfl⟩) (fun M2' h2' => kk M2' ⟨_, _, _, _, h3, h2', ?_, ⟨fun _ => rfl, rfl, rfl, rfl, rfl, rfl, rfl, rfl, rfl, rfl⟩, fun _ => rfl, fun z => absurd (o2'.symm.trans z) (by decide)⟩), fun z => absurd o2' z⟩), fun h9 => absurd (o253.symm.trans h9) (by decide)⟩)⟩
      rw [← s2]
      exact ⟨hE.1, ⟨s1, rfl, s3, Or.inl ⟨rfl, rfl⟩, s5, s6, s7, s8, s9, s10, s11, s12, s13, s14, s15, s16⟩, hE.2.2⟩
    · by_cases o251 : mz_i m1 (12, 1) 4 = 251
      · have o2' : mz_i m2 (39, 0) 1 = 251 := o1.symm.trans o251
        refine ⟨fun _ => ⟨fun h9 => absurd o251 h9, fun _ => pl_answerOrder h1' (fun M1' ds h3 => hk0 M1' (fun M2 K2 h2 kk => hq M2 K2 h2 ⟨fun _ => mo_order (k := 254) h2 ha (by decide) (Or.inr ⟨o2', rfl⟩) (fun M2' h2' => kk M2' ⟨_, _, _, _, h3, h2', ?_, ⟨fun _ => rfl, rfl, rfl, rfl, rfl, rfl, rfl, rfl, rfl, rfl⟩, fun _ => rfl, fun z => absurd (o2'.symm.trans z) (by decide)⟩), fun _ z => absurd o2' z⟩))⟩, fun h9 => absurd h9 o253⟩
        rw [← s2]
        exact ⟨hE.1, ⟨s1, rfl, s3, Or.inl ⟨rfl, rfl⟩, s5, s6, s7, s8, s9, s10, s11, s12, s13, s14, s15, s16⟩, hE.2.2⟩
      · refine ⟨fun _ => ⟨fun _ => hk0 _ (fun M2 K2 h2 kk => hq M2 K2 h2 ⟨fun z => absurd z (fun z => z.elim (fun z => o253 (o1.trans z)) (fun z => o251 (o1.trans z))), fun _ _ M2' h2' => kk M2' ⟨_, _, _, _, h1', h2', ⟨hE.1, ⟨s1, s2, s3, Or.inl ⟨rfl, rfl⟩, s5, s6, s7, s8, s9, s10, s11, s12, s13, s14, s15, s16⟩, hE.2.2⟩, ⟨fun _ => rfl, rfl, rfl, rfl, rfl, rfl, rfl, rfl, rfl, rfl⟩, fun _ => rfl, fun z => absurd (by rw [z]; decide) nle⟩⟩), fun h9 => absurd h9 o251⟩, fun h9 => absurd h9 o253⟩
