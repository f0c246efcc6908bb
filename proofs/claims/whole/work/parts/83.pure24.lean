theorem pl_keep {x : Nat} {b : Int32} {M m : MzM} {L : MzV} {K : MzM → Prop} (h : A1 M m L) (hA : (L 13 x).length < 30 → ∀ M', A1 M' m (lu L 13 x (L 13 x ++ [b])) → K M') (hB : ¬ (L 13 x).length < 30 → ∀ M', A1 M' (mz_si m (12, x) 3 1) L → K M') : wp_Lin_keep x b M K := by
  obtain ⟨e1, e2, e3⟩ := h.2.2.1 13 12 2 30 x rfl
  have e4 : (mz_i M (12, x) 2).toInt = ((L 13 x).length : Int) := by rw [e1]; exact itn (by omega)
  refine ⟨fun h9 => ?_, fun h9 => ?_⟩
  · have q := (ilt (n := 30) e4 rfl).mp h9
    have hl : (L 13 x).length < 30 := by omega
    refine ⟨(L 13 x).length, e4, hl, ?_⟩
    rintro _ rfl _ rfl
    exact hA hl _ (A1.push (t := 13) (w := mz_i (mz_si M (13, x) (L 13 x).length b) (12, x) 2 + 1) h rfl hl (i32_succ e1))
  · have q : ¬ ((L 13 x).length : Int) < 30 := fun q => h9 ((ilt (n := 30) e4 rfl).mpr q)
    rintro _ rfl
    exact hB (by omega) _ (h.si (o := (12, x)) (k := 3) (v := 1) rfl)
theorem mo_addToLine {x : Nat} {a b : Int32} {M m : MzM} {L : MzV} {K : MzM → Prop} (h : A2 M m L) (ha : a.toInt = (x : Int)) (hx : x < 2) (hA : (L 43 x).length < 30 → ∀ M', A2 M' m (lu L 43 x (L 43 x ++ [b])) → K M') (hB : ¬ (L 43 x).length < 30 → ∀ M', A2 M' (mz_si m (42, 0) x 1) L → K M') : wp_Mo_addToLine a b M K := by
  obtain ⟨e1, e2, e3⟩ := h.2 43 41 30 2 x rfl hx
  have e4 : (mz_i M (41, 0) x).toInt = ((L 43 x).length : Int) := by rw [e1]; exact itn (by omega)
  have e5 : ((30 : Int32) * a).toInt = 30 * (x : Int) := imul (m := 30) rfl ha (by omega) (by omega)
  refine ⟨x, ha, hx, fun h9 => ?_, fun h9 => ⟨x, ha, hx, ?_⟩⟩
  · have q : ¬ ((L 43 x).length : Int) = 30 := fun q => h9 ((ieq (n := 30) e4 rfl).mpr q)
    have hl : (L 43 x).length < 30 := by omega
    have e6 : (((30 : Int32) * a) + (mz_i M (41, 0) x)).toInt = ((30 * x + (L 43 x).length : Nat) : Int) := by rw [iadd e5 e4 (by omega) (by omega)]; omega
    refine ⟨x, ha, hx, 30 * x + (L 43 x).length, e6, by omega, ?_⟩
    rintro _ rfl
    refine ⟨x, ha, hx, x, ha, hx, ?_⟩
    rintro _ rfl
    exact hA hl _ (A2.push (t := 43) (w := mz_i (mz_si M (43, 0) (30 * x + (L 43 x).length) b) (41, 0) x + 1) h rfl hx hl (i32_succ e1))
  · have q := (ieq (n := 30) e4 rfl).mp h9
    rintro _ rfl
    exact hB (by omega) _ (h.si (t := 42) (k := x) (v := 1) rfl)
theorem pl_answerOrder {x : Nat} {k b : Int32} {M m : MzM} {L : MzV} {K : MzM → Prop} (h : A1 M m L) (hk : ∀ M' ds, A1 M' m (lu (lu L 11 x ds) 9 x (qap (L 9 x) ([255] ++ [k] ++ [b]))) → K M') : wp_Rep_answerOrder x k b M K := by
  rintro _ rfl
  have h0 : A1 (mz_si M (9, x) 4 0) m (lu L 11 x []) := h.clr (t := 11) rfl
  exact pl_write h0 (lt_ble rfl) (fun M1 h1 => pl_write h1 (lt_ble rfl) (fun M2 h2 => pl_write h2 (lt_ble rfl) (fun M3 h3 => pl_keepDraft h3 (fun M4 h4 => hk M4 _ h4))))
/-- the reference's answer to an order -/
theorem mo_order {x : Nat} {a k b : Int32} {M m : MzM} {L : MzV} {K : MzM → Prop} (h : A2 M m L) (ha : a.toInt = (x : Int)) (hx : x < 2) (ho : (mz_i m (39, 0) x = 253 ∧ k = 252) ∨ (mz_i m (39, 0) x = 251 ∧ k = 254)) (hk : ∀ M', A2 M' (mz_si m (39, 0) x 0) (lu L 45 x (qap (L 45 x) ([255] ++ [k] ++ [b]))) → K M') : wp_Mo_take1_34 K a b M := by
  refine mo_hasRoom (n := 3) h ha hx rfl (by decide) (fun hr => ⟨fun h9 => absurd h9 (by decide), fun _ => ?_⟩) (fun hr => ⟨fun _ => ⟨x, ha, hx, ?_⟩, fun h9 => absurd rfl h9⟩)
  · have e : qap (L 45 x) ([255] ++ [k] ++ [b]) = L 45 x ++ [255] ++ [k] ++ [b] := by
      unfold qap
      rw [if_pos (by simp only [List.length_append, List.length_singleton]; omega)]
      simp only [List.append_assoc]
    rw [e] at hk
    have h' : A2 M m (lu L 45 x (L 45 x)) := by rw [lu_id]; exact h
    refine mo_put' h' ha hx (by omega) (fun M1 h1 => ⟨x, ha, hx, ?_⟩)
    have go : wp_Mo_take1_74 K a b k a M1 := by
      refine mo_put' h1 ha hx (by simp only [List.length_append, List.length_singleton]; omega) (fun M2 h2 => mo_put' h2 ha hx (by simp only [List.length_append, List.length_singleton]; omega) (fun M3 h3 => ⟨x, ha, hx, ?_⟩))
      rintro _ rfl
      exact hk _ (h3.si (t := 39) (k := x) (v := 0) rfl)
    rw [h1.1 39 x rfl]
    rcases ho with ⟨o1, o2⟩ | ⟨o1, o2⟩
    · rw [o2] at go
      exact ⟨fun h9 => absurd o1 h9, fun _ => go⟩
    · rw [o2] at go
      exact ⟨fun _ => go, fun h9 => absurd (o1.symm.trans h9) (by decide)⟩
  · have e : qap (L 45 x) ([255] ++ [k] ++ [b]) = L 45 x := by
      unfold qap
      rw [if_neg (by simp only [List.length_append, List.length_singleton]; omega)]
    rw [e, lu_id] at hk
    rintro _ rfl
    exact hk _ (h.si (t := 39) (k := x) (v := 0) rfl)
/-- what comes out of a byte that ends no line -/
def OB (m1 m2 : MzM) (X : Nat) (b : Int32) (M1' M2' : MzM) : Prop := ∃ (m1' : MzM) (L1' : MzV) (m2' : MzM) (L2' : MzV), A1 M1' m1' L1' ∧ A2 M2' m2' L2' ∧ EE m1' L1' m2' L2' ∧ cpF m1 m2 m1' m2' ∧ (b < 251 → mz_i m2' (39, 0) X = 0) ∧ (mz_i m2 (39, 0) X = 0 → b < 251 → (b = 13 → mz_i m2' (40, 0) X = 1) ∧ (¬ b = 13 → mz_i m2' (40, 0) X = 0))
theorem plain_0 {m1 m2 M1 : MzM} {L1 L2 : MzV} {a b : Int32} {K : Int32 → MzM → Prop} (hE : EE m1 L1 m2 L2) (ha : a.toInt = ((0 : Nat) : Int)) (hn : ¬ (¬ mz_i m2 (40, 0) 0 = 0 ∧ b = 10)) (h1 : A1 M1 (mz_si m1 (12, 0) 4 0) L1) (hk : ∀ M1', (∀ (M2 : MzM) (K2 : MzM → Prop), A2 M2 (mz_si m2 (39, 0) 0 0) L2 → (∀ M2' m1' L1' m2' L2', A1 M1' m1' L1' → A2 M2' m2' L2' → EE m1' L1' m2' L2' → cpF m1 m2 m1' m2' → mz_i m2' (39, 0) 0 = 0 → (b = 13 → mz_i m2' (40, 0) 0 = 1) → (¬ b = 13 → mz_i m2' (40, 0) 0 = 0) → K2 M2') → wp_Mo_plain a b M2 K2) → K 0 M1') : wp_Lin_readLineByte 0 b M1 K := by
  obtain ⟨s1, s2, s3, s4, s5, s6, s7, s8, s9, s10, s11, s12, s13, s14, s15, s16⟩ := hE.1
  have e5 : mz_i M1 (12, 0) 5 = mz_i m2 (40, 0) 0 := (h1.1 _ _ rfl).trans s5
  have hlen : (L1 13 0).length = (L2 43 0).length := by rw [s3]
  rintro _ rfl
  have h1' := h1.si (o := (12, 0)) (k := 5) (v := 0) rfl
  -- the byte c is kept
  have kp : ∀ c : Int32, (∀ (M2 : MzM) (K2 : MzM → Prop), A2 M2 (mz_si m2 (39, 0) 0 0) L2 → (∀ N, A2 N (mz_si (mz_si m2 (39, 0) 0 0) (40, 0) 0 0) L2 → wp_Mo_addToLine a c N K2) → wp_Mo_plain a b M2 K2) → ¬ b = 13 → wp_Lin_keep 0 c (mz_si M1 (12, 0) 5 0) (fun M9 => K 0 M9) := by
    intro c hr hb
    refine pl_keep h1' (fun hl M1' h1k => hk M1' (fun M2 K2 h2 kk => hr M2 K2 h2 (fun N hN => mo_addToLine hN ha (by decide) (fun _ M2' h2k => kk M2' _ _ _ _ h1k h2k ?_ ⟨fun _ => rfl, rfl, rfl, rfl, rfl, rfl, rfl, rfl, rfl, rfl⟩ rfl (fun z => absurd z hb) (fun _ => rfl)) (fun h9 => absurd (by omega) h9)))) (fun hl M1' h1k => hk M1' (fun M2 K2 h2 kk => hr M2 K2 h2 (fun N hN => mo_addToLine hN ha (by decide) (fun h9 => absurd (by omega) hl) (fun _ M2' h2k => kk M2' _ _ _ _ h1k h2k ?_ ⟨fun _ => rfl, rfl, rfl, rfl, rfl, rfl, rfl, rfl, rfl, rfl⟩ rfl (fun z => absurd z hb) (fun _ => rfl)))))
    · rw [s3]
      exact ⟨⟨s1, s2, rfl, Or.inl ⟨rfl, rfl⟩, rfl, s6, s7, s8, s9, s10, s11, s12, s13, s14, s15, s16⟩, hE.2⟩
    · exact ⟨⟨s1, s2, s3, Or.inl ⟨rfl, rfl⟩, rfl, rfl, s7, s8, s9, s10, s11, s12, s13, s14, s15, s16⟩, hE.2⟩
  have rt : b = 13 → ∀ M1', A1 M1' (mz_si (mz_si (mz_si m1 (12, 0) 4 0) (12, 0) 5 0) (12, 0) 5 1) L1 → K 0 M1' := by
    intro hb M1' h1k
    refine hk M1' (fun M2 K2 h2 kk => ⟨0, ha, by decide, fun h9 => absurd hb h9, fun _ => ⟨Or.inr rfl, 0, ha, by decide, ?_⟩⟩)
    rintro _ rfl
    have h3 := h2.si (t := 40) (k := 0) (v := 1) rfl
    have fin : K2 (mz_si M2 (40, 0) 0 1) := kk _ _ _ _ _ h1k h3 ⟨⟨s1, s2, s3, Or.inl ⟨rfl, rfl⟩, rfl, s6, s7, s8, s9, s10, s11, s12, s13, s14, s15, s16⟩, hE.2⟩ ⟨fun _ => rfl, rfl, rfl, rfl, rfl, rfl, rfl, rfl, rfl, rfl⟩ rfl (fun _ => rfl) (fun z => absurd hb z)
    have n10 : ¬ b = 10 := by rw [hb]; decide
    have n0 : ¬ b = 0 := by rw [hb]; decide
    have g : wp_Mo_plain_65 K2 a b (mz_i M2 (40, 0) 0) (mz_si M2 (40, 0) 0 1) := ⟨fun _ => ⟨fun _ => fin, fun z => absurd hb z⟩, fun _ => ⟨fun _ => ⟨fun _ => fin, fun z => absurd hb z⟩, fun z => absurd z n0⟩⟩
    exact ⟨fun _ => g, fun _ => ⟨fun _ => g, fun z => absurd z n10⟩⟩
  have pl0 : ∀ (M2 : MzM) (K2 : MzM → Prop), A2 M2 (mz_si m2 (39, 0) 0 0) L2 → ¬ b = 13 → ((mz_i m2 (40, 0) 0 = 0 ∨ ¬ b = 0) → ∀ N, A2 N (mz_si (mz_si m2 (39, 0) 0 0) (40, 0) 0 0) L2 → wp_Mo_addToLine a b N K2) → (¬ mz_i m2 (40, 0) 0 = 0 → b = 0 → ∀ N, A2 N (mz_si (mz_si m2 (39, 0) 0 0) (40, 0) 0 0) L2 → wp_Mo_addToLine a 13 N K2) → wp_Mo_plain a b M2 K2 := by
    intro M2 K2 h2 hb k1 k2
    refine ⟨0, ha, by decide, fun _ => ⟨Or.inl rfl, 0, ha, by decide, ?_⟩, fun h9 => absurd h9 hb⟩
    rintro _ rfl
    have h3 := h2.si (t := 40) (k := 0) (v := 0) rfl
    rw [h2.1 40 0 rfl]
    have g : wp_Mo_plain_65 K2 a b (mz_i (mz_si m2 (39, 0) 0 0) (40, 0) 0) (mz_si M2 (40, 0) 0 0) := ⟨fun z => ⟨fun z9 => absurd z9 hb, fun _ => k1 (Or.inl z) _ h3⟩, fun z => ⟨fun z0 => ⟨fun z9 => absurd z9 hb, fun _ => k1 (Or.inr z0) _ h3⟩, fun z0 => k2 z z0 _ h3⟩⟩
    exact ⟨fun _ => g, fun z => ⟨fun _ => g, fun z9 => absurd ⟨z, z9⟩ hn⟩⟩
  rw [e5]
  have t39 : (mz_i m2 (40, 0) 0 = 0 ∨ ¬ b = 0) → wp_Lin_readLineByte_39 0 K b (mz_si M1 (12, 0) 5 0) := by
    intro hz
    refine ⟨fun hb => kp b (fun M2 K2 h2 kk => pl0 M2 K2 h2 hb (fun _ => kk) (fun z1 z2 => absurd z2 (hz.elim (fun q => absurd q z1) id))) hb, fun hb => ?_⟩
    rintro _ rfl
    exact rt hb _ (h1'.si (o := (12, 0)) (k := 5) (v := 1) rfl)
  have t22 : wp_Lin_readLineByte_22 0 K b (mz_i m2 (40, 0) 0) (mz_si M1 (12, 0) 5 0) := by
    refine ⟨fun z => t39 (Or.inl z), fun z => ⟨fun z0 => t39 (Or.inr z0), fun z0 => ?_⟩⟩
    have hb : ¬ b = 13 := by rw [z0]; decide
    exact kp 13 (fun M2 K2 h2 kk => pl0 M2 K2 h2 hb (fun q => absurd z0 (q.elim (fun q => absurd q z) id)) (fun _ _ => kk)) hb
  exact ⟨fun _ => t22, fun z => ⟨fun _ => t22, fun z9 => absurd ⟨z, z9⟩ hn⟩⟩
theorem plain_1 {m1 m2 M1 : MzM} {L1 L2 : MzV} {a b : Int32} {K : Int32 → MzM → Prop} (hE : EE m1 L1 m2 L2) (ha : a.toInt = ((1 : Nat) : Int)) (hn : ¬ (¬ mz_i m2 (40, 0) 1 = 0 ∧ b = 10)) (h1 : A1 M1 (mz_si m1 (12, 1) 4 0) L1) (hk : ∀ M1', (∀ (M2 : MzM) (K2 : MzM → Prop), A2 M2 (mz_si m2 (39, 0) 1 0) L2 → (∀ M2' m1' L1' m2' L2', A1 M1' m1' L1' → A2 M2' m2' L2' → EE m1' L1' m2' L2' → cpF m1 m2 m1' m2' → mz_i m2' (39, 0) 1 = 0 → (b = 13 → mz_i m2' (40, 0) 1 = 1) → (¬ b = 13 → mz_i m2' (40, 0) 1 = 0) → K2 M2') → wp_Mo_plain a b M2 K2) → K 0 M1') : wp_Lin_readLineByte 1 b M1 K := by
  obtain ⟨s1, s2, s3, s4, s5, s6, s7, s8, s9, s10, s11, s12, s13, s14, s15, s16⟩ := hE.2.1
  have e5 : mz_i M1 (12, 1) 5 = mz_i m2 (40, 0) 1 := (h1.1 _ _ rfl).trans s5
  have hlen : (L1 13 1).length = (L2 43 1).length := by rw [s3]
  rintro _ rfl
  have h1' := h1.si (o := (12, 1)) (k := 5) (v := 0) rfl
  -- the byte c is kept
  have kp : ∀ c : Int32, (∀ (M2 : MzM) (K2 : MzM → Prop), A2 M2 (mz_si m2 (39, 0) 1 0) L2 → (∀ N, A2 N (mz_si (mz_si m2 (39, 0) 1 0) (40, 0) 1 0) L2 → wp_Mo_addToLine a c N K2) → wp_Mo_plain a b M2 K2) → ¬ b = 13 → wp_Lin_keep 1 c (mz_si M1 (12, 1) 5 0) (fun M9 => K 0 M9) := by
    intro c hr hb
    refine pl_keep h1' (fun hl M1' h1k => hk M1' (fun M2 K2 h2 kk => hr M2 K2 h2 (fun N hN => mo_addToLine hN ha (by decide) (fun _ M2' h2k => kk M2' _ _ _ _ h1k h2k ?_ ⟨fun _ => rfl, rfl, rfl, rfl, rfl, rfl, rfl, rfl, rfl, rfl⟩ rfl (fun z => absurd z hb) (fun _ => rfl)) (fun h9 => absurd (by omega) h9)))) (fun hl M1' h1k => hk M1' (fun M2 K2 h2 kk => hr M2 K2 h2 (fun N hN => mo_addToLine hN ha (by decide) (fun h9 => absurd (by omega) hl) (fun _ M2' h2k => kk M2' _ _ _ _ h1k h2k ?_ ⟨fun _ => rfl, rfl, rfl, rfl, rfl, rfl, rfl, rfl, rfl, rfl⟩ rfl (fun z => absurd z hb) (fun _ => rfl)))))
    · rw [s3]
      exact ⟨hE.1, ⟨s1, s2, rfl, Or.inl ⟨rfl, rfl⟩, rfl, s6, s7, s8, s9, s10, s11, s12, s13, s14, s15, s16⟩, hE.2.2⟩
    · exact ⟨hE.1, ⟨s1, s2, s3, Or.inl ⟨rfl, rfl⟩, rfl, rfl, s7, s8, s9, s10, s11, s12, s13, s14, s15, s16⟩, hE.2.2⟩
  have rt : b = 13 → ∀ M1', A1 M1' (mz_si (mz_si (mz_si m1 (12, 1) 4 0) (12, 1) 5 0) (12, 1) 5 1) L1 → K 0 M1' := by
    intro hb M1' h1k
    refine hk M1' (fun M2 K2 h2 kk => ⟨1, ha, by decide, fun h9 => absurd hb h9, fun _ => ⟨Or.inr rfl, 1, ha, by decide, ?_⟩⟩)
    rintro _ rfl
    have h3 := h2.si (t := 40) (k := 1) (v := 1) rfl
    have fin : K2 (mz_si M2 (40, 0) 1 1) := kk _ _ _ _ _ h1k h3 ⟨hE.1, ⟨s1, s2, s3, Or.inl ⟨rfl, rfl⟩, rfl, s6, s7, s8, s9, s10, s11, s12, s13, s14, s15, s16⟩, hE.2.2⟩ ⟨fun _ => rfl, rfl, rfl, rfl, rfl, rfl, rfl, rfl, rfl, rfl⟩ rfl (fun _ => rfl) (fun z => absurd hb z)
    have n10 : ¬ b = 10 := by rw [hb]; decide
    have n0 : ¬ b = 0 := by rw [hb]; decide
    have g : wp_Mo_plain_65 K2 a b (mz_i M2 (40, 0) 1) (mz_si M2 (40, 0) 1 1) := ⟨fun _ => ⟨fun _ => fin, fun z => absurd hb z⟩, fun _ => ⟨fun _ => ⟨fun _ => fin, fun z => absurd hb z⟩, fun z => absurd z n0⟩⟩
    exact ⟨fun _ => g, fun _ => ⟨fun _ => g, fun z => absurd z n10⟩⟩
  have pl0 : ∀ (M2 : MzM) (K2 : MzM → Prop), A2 M2 (mz_si m2 (39, 0) 1 0) L2 → ¬ b = 13 → ((mz_i m2 (40, 0) 1 = 0 ∨ ¬ b = 0) → ∀ N, A2 N (mz_si (mz_si m2 (39, 0) 1 0) (40, 0) 1 0) L2 → wp_Mo_addToLine a b N K2) → (¬ mz_i m2 (40, 0) 1 = 0 → b = 0 → ∀ N, A2 N (mz_si (mz_si m2 (39, 0) 1 0) (40, 0) 1 0) L2 → wp_Mo_addToLine a 13 N K2) → wp_Mo_plain a b M2 K2 := by
    intro M2 K2 h2 hb k1 k2
    refine ⟨1, ha, by decide, fun _ => ⟨Or.inl rfl, 1, ha, by decide, ?_⟩, fun h9 => absurd h9 hb⟩
    rintro _ rfl
    have h3 := h2.si (t := 40) (k := 1) (v := 0) rfl
    rw [h2.1 40 1 rfl]
    have g : wp_Mo_plain_65 K2 a b (mz_i (mz_si m2 (39, 0) 1 0) (40, 0) 1) (mz_si M2 (40, 0) 1 0) := ⟨fun z => ⟨fun z9 => absurd z9 hb, fun _ => k1 (Or.inl z) _ h3⟩, fun z => ⟨fun z0 => ⟨fun z9 => absurd z9 hb, fun _ => k1 (Or.inr z0) _ h3⟩, fun z0 => k2 z z0 _ h3⟩⟩
    exact ⟨fun _ => g, fun z => ⟨fun _ => g, fun z9 => absurd ⟨z, z9⟩ hn⟩⟩
  rw [e5]
  have t39 : (mz_i m2 (40, 0) 1 = 0 ∨ ¬ b = 0) → wp_Lin_readLineByte_39 1 K b (mz_si M1 (12, 1) 5 0) := by
    intro hz
    refine ⟨fun hb => kp b (fun M2 K2 h2 kk => pl0 M2 K2 h2 hb (fun _ => kk) (fun z1 z2 => absurd z2 (hz.elim (fun q => absurd q z1) id))) hb, fun hb => ?_⟩
    rintro _ rfl
    exact rt hb _ (h1'.si (o := (12, 1)) (k := 5) (v := 1) rfl)
  have t22 : wp_Lin_readLineByte_22 1 K b (mz_i m2 (40, 0) 1) (mz_si M1 (12, 1) 5 0) := by
    refine ⟨fun z => t39 (Or.inl z), fun z => ⟨fun z0 => t39 (Or.inr z0), fun z0 => ?_⟩⟩
    have hb : ¬ b = 13 := by rw [z0]; decide
    exact kp 13 (fun M2 K2 h2 kk => pl0 M2 K2 h2 hb (fun q => absurd z0 (q.elim (fun q => absurd q z) id)) (fun _ _ => kk)) hb
  exact ⟨fun _ => t22, fun z => ⟨fun _ => t22, fun z9 => absurd ⟨z, z9⟩ hn⟩⟩
