theorem ee_byA_0 {m1 m2 : MzM} {L1 L2 : MzV} {n : Nat} {l1 l2 : List Int32} (hE : EE m1 L1 m2 L2) (h0 : mz_i m2 (55, 0) 0 = 0) (t1 : mz_i m2 (53, 0) 0 = 2) (t2 : mz_i m1 (16, 0) 2 = mz_i m2 (51, 0) 0) (t3 : mz_i m2 (51, 0) 0 = 0 → mz_i m2 (55, 0) 0 = 0) (t4 : L1 17 0 = []) (t5 : mz_i m1 (16, 0) 6 = 0) (t6 : filE m2 n) (t7 : mz_r m1 (16, 0) 4 = some (3, n)) (t8 : mz_i m2 (54, 0) 0 = Int32.ofNat n) (hl : L1 5 n = L2 38 n → l1 = l2) : EE (mz_si m1 (16, 0) 3 0) (lu L1 5 n l1) m2 (lu L2 38 n l2) := by
  obtain ⟨s1, s2, s3, s4, s5, s6, s7, s8, s9, s10, s11, s12, s13, s14, s15, _⟩ := hE.1
  obtain ⟨hb, he⟩ := hE.2.2.2.1
  have hu : ¬ mz_i m1 (3, n) 6 = 0 := (hb n t6.1).2.2.2 ((hb n t6.1).2.2.1.mpr (Or.inl ⟨t1, t8⟩))
  refine ⟨⟨s1, s2, s3, s4, s5, s6, s7, s8, s9, s10, s11, s12, s13, s14, h0.symm, Or.inr (Or.inr ⟨t1, t2, t3, t4, t5, n, t6, t7, t8⟩)⟩, hE.2.1, fun n' hn' => nodeE_congr' rfl rfl rfl rfl rfl rfl rfl rfl rfl (fun z => ?_) (fun z => ?_) (hE.2.2.1 n' hn'), ⟨hb, he⟩, hE.2.2.2.2.1, hE.2.2.2.2.2.1, hE.2.2.2.2.2.2.1, hE.2.2.2.2.2.2.2.1, hE.2.2.2.2.2.2.2.2⟩
  · by_cases hnn : n' = n
    · subst hnn
      rw [lu_same, lu_same, hl z]
    · rw [lu_ne L1 _ (fun q => hnn q.2), lu_ne L2 _ (fun q => hnn q.2)]
      exact z
  · by_cases hnn : n' = n
    · subst hnn
      exact absurd z hu
    · rw [lu_ne L2 _ (fun q => hnn q.2)]
theorem ee_byB_0 {m1 m2 : MzM} {L1 L2 : MzV} {n : Nat} {l1 l2 : List Int32} {v : Int32} (hE : EE m1 L1 m2 L2) (hv : mz_i m2 (51, 0) 0 = 0 → v = 0) (t1 : mz_i m2 (53, 0) 0 = 2) (t2 : mz_i m1 (16, 0) 2 = mz_i m2 (51, 0) 0) (t3 : mz_i m2 (51, 0) 0 = 0 → mz_i m2 (55, 0) 0 = 0) (t4 : L1 17 0 = []) (t5 : mz_i m1 (16, 0) 6 = 0) (t6 : filE m2 n) (t7 : mz_r m1 (16, 0) 4 = some (3, n)) (t8 : mz_i m2 (54, 0) 0 = Int32.ofNat n) (hl : L1 5 n = L2 38 n → l1 = l2) : EE (mz_si m1 (16, 0) 3 v) (lu L1 5 n l1) (mz_si m2 (55, 0) 0 v) (lu L2 38 n l2) := by
  obtain ⟨s1, s2, s3, s4, s5, s6, s7, s8, s9, s10, s11, s12, s13, s14, s15, _⟩ := hE.1
  obtain ⟨hb, he⟩ := hE.2.2.2.1
  have hu : ¬ mz_i m1 (3, n) 6 = 0 := (hb n t6.1).2.2.2 ((hb n t6.1).2.2.1.mpr (Or.inl ⟨t1, t8⟩))
  refine ⟨⟨s1, s2, s3, s4, s5, s6, s7, s8, s9, s10, s11, s12, s13, s14, rfl, Or.inr (Or.inr ⟨t1, t2, hv, t4, t5, n, t6, t7, t8⟩)⟩, hE.2.1, fun n' hn' => nodeE_congr' rfl rfl rfl rfl rfl rfl rfl rfl rfl (fun z => ?_) (fun z => ?_) (hE.2.2.1 n' hn'), ⟨hb, he⟩, hE.2.2.2.2.1, hE.2.2.2.2.2.1, hE.2.2.2.2.2.2.1, hE.2.2.2.2.2.2.2.1, hE.2.2.2.2.2.2.2.2⟩
  · by_cases hnn : n' = n
    · subst hnn
      rw [lu_same, lu_same, hl z]
    · rw [lu_ne L1 _ (fun q => hnn q.2), lu_ne L2 _ (fun q => hnn q.2)]
      exact z
  · by_cases hnn : n' = n
    · subst hnn
      exact absurd z hu
    · rw [lu_ne L2 _ (fun q => hnn q.2)]
theorem bring_0 {m1 m2 M1 : MzM} {L1 L2 : MzV} {a b : Int32} {K : MzM → Prop} (hE : EE m1 L1 m2 L2) (ha : a.toInt = ((0 : Nat) : Int)) (h1 : A1 M1 m1 L1) (t1 : mz_i m2 (53, 0) 0 = 2) (hk : ∀ M1', (∀ (M2 : MzM) (K2 : MzM → Prop), A2 M2 m2 L2 → (∀ M2', OO m1 m2 M1' M2' → K2 M2') → wp_Mo_bringOne a b M2 K2) → K M1') : wp_Way_receiveByte 0 b M1 K := by
  obtain ⟨_, _, _, _, _, _, _, _, _, _, _, _, _, hmode, hheld, htr⟩ := hE.1
  rcases htr with ⟨z, _⟩ | ⟨z, _⟩ | ⟨_, t2, t3, t4, t5, n, t6, t7, t8⟩
  · exact absurd (z.symm.trans t1) (by decide)
  · exact absurd (z.symm.trans t1) (by decide)
  have hrr : mz_r M1 (16, 0) 4 = some (3, n) := (h1.2.1 _ _).trans t7
  have ho : mz_r M1 (16, 0) 4 = none ∨ ∃ n1 : Nat, n1 < 16 ∧ mz_r M1 (16, 0) 4 = some (3, n1) := Or.inr ⟨n, t6.1, hrr⟩
  have e3 : mz_i M1 (16, 0) 3 = mz_i m2 (55, 0) 0 := (h1.1 _ _ rfl).trans hheld
  have hf : ∀ (M2 : MzM) (L : MzV), A2 M2 m2 L → (mz_i M2 (54, 0) 0).toInt = (n : Int) := fun M2 L h => by
    rw [h.1 54 0 rfl, t8]
    exact itn (by have := t6.1; omega)
  refine ⟨fun z => absurd z (some3n hrr), fun n1 _ z1 => ?_, ho⟩
  rintro _ rfl
  have h1' := h1.si (o := (16, 0)) (k := 3) (v := 0) rfl
  -- the rest, from a memory that has the row l
  have t40 : ∀ (N : MzM) (l : List Int32), A1 N (mz_si m1 (16, 0) 3 0) (lu L1 5 n l) → (mz_i m2 (51, 0) 0 = 0 → ∀ M1', A1 M1' (mz_si m1 (16, 0) 3 0) (lu L1 5 n (row24 l b)) → K M1') → (¬ mz_i m2 (51, 0) 0 = 0 → ¬ b = 13 → ∀ M1', A1 M1' (mz_si m1 (16, 0) 3 0) (lu L1 5 n (row24 l b)) → K M1') → (¬ mz_i m2 (51, 0) 0 = 0 → b = 13 → ∀ M1', A1 M1' (mz_si (mz_si m1 (16, 0) 3 0) (16, 0) 3 1) (lu L1 5 n l) → K M1') → wp_Way_receiveByte_40 0 K b N := by
    intro N l hN k1 k2 k3
    have hr : mz_r N (16, 0) 4 = some (3, n) := (hN.2.1 _ _).trans t7
    have ho' : mz_r N (16, 0) 4 = none ∨ ∃ n1 : Nat, n1 < 16 ∧ mz_r N (16, 0) 4 = some (3, n1) := Or.inr ⟨n, t6.1, hr⟩
    have e2 : mz_i N (16, 0) 2 = mz_i m2 (51, 0) 0 := (hN.1 _ _ rfl).trans t2
    have ad : ∀ n', mz_r N (16, 0) 4 = some (3, n') → (∀ M1', A1 M1' (mz_si m1 (16, 0) 3 0) (lu L1 5 n (row24 l b)) → K M1') → wp_Row_add n' b N (fun M20 => K M20) := by
      intro n' hn' kk
      have e := some3 hr hn'
      subst e
      refine pl_add hN (fun M' h' => kk M' ?_)
      rw [lu_same, lu_lu] at h'
      exact h'
    unfold wp_Way_receiveByte_40
    rw [e2]
    refine ⟨fun z => ⟨fun q => absurd q (some3n hr), fun n17 _ q => ad n17 q (k1 z), ho'⟩, fun z => ⟨fun zb => ⟨fun q => absurd q (some3n hr), fun n25 _ q => ad n25 q (k2 z zb), ho'⟩, fun zb => ?_⟩⟩
    rintro _ rfl
    exact k3 z zb _ (hN.si (o := (16, 0)) (k := 3) (v := 1) rfl)
  have hid : lu L1 5 n (L1 5 n) = L1 := lu_id L1 5 n
  have hid2 : lu L2 38 n (L2 38 n) = L2 := lu_id L2 38 n
  -- the reference behind its first part
  have t38 : ∀ (N : MzM) (l : List Int32) (K2 : MzM → Prop) (y3 : Int32), y3.toInt = (n : Int) → A2 N m2 (lu L2 38 n l) → (¬ b = 13 → ∀ M2', A2 M2' (mz_si m2 (55, 0) 0 0) (lu L2 38 n (row24 l b)) → K2 M2') → (b = 13 → ∀ M2', A2 M2' (mz_si m2 (55, 0) 0 1) (lu L2 38 n l) → K2 M2') → wp_Mo_bringOne_38 K2 a b y3 N := by
    intro N l K2 y3 hy3 hN k1 k2
    refine ⟨fun zb => ⟨Or.inl rfl, 0, ha, by decide, ?_⟩, fun zb => ⟨Or.inr rfl, 0, ha, by decide, ?_⟩⟩
    · rintro _ rfl
      have h3 := hN.si (t := 55) (k := 0) (v := 0) rfl
      refine ⟨fun z => absurd z zb, fun _ => mo_keep h3 hy3 t6.1 (fun M' h' => k1 zb M' ?_)⟩
      rw [lu_same, lu_lu] at h'
      exact h'
    · rintro _ rfl
      have h3 := hN.si (t := 55) (k := 0) (v := 1) rfl
      exact ⟨fun _ => k2 zb _ h3, fun z => absurd zb z⟩
  have rA : mz_i m2 (51, 0) 0 = 0 → ∀ (M1' : MzM), A1 M1' (mz_si m1 (16, 0) 3 0) (lu L1 5 n (row24 (L1 5 n) b)) → K M1' := by
    intro z M1' hM
    refine hk M1' (fun M2 K2 h2 hk2 => ⟨0, ha, by decide, 0, ha, by decide, fun _ => mo_keep h2 (hf M2 L2 h2) t6.1 (fun M2' h2' => hk2 _ ⟨_, _, _, _, hM, h2', ee_byA_0 hE (t3 z) t1 t2 t3 t4 t5 t6 t7 t8 (fun e => by rw [e]), ⟨fun _ => rfl, rfl, rfl, rfl, rfl, rfl, rfl, rfl, rfl, rfl⟩⟩), fun h9 => absurd ((h2.1 51 0 rfl).trans z) h9⟩)
  have rB : ¬ mz_i m2 (51, 0) 0 = 0 → ∀ (l1 l2 : List Int32), (L1 5 n = L2 38 n → l1 = l2) → (∀ (M2 : MzM) (K2 : MzM → Prop), A2 M2 m2 L2 → (∀ N, A2 N m2 (lu L2 38 n l2) → wp_Mo_bringOne_38 K2 a b (mz_i M2 (54, 0) 0) N) → wp_Mo_bringOne a b M2 K2) → (¬ b = 13 → ∀ M1', A1 M1' (mz_si m1 (16, 0) 3 0) (lu L1 5 n (row24 l1 b)) → K M1') ∧ (b = 13 → ∀ M1', A1 M1' (mz_si (mz_si m1 (16, 0) 3 0) (16, 0) 3 1) (lu L1 5 n l1) → K M1') := by
    intro z l1 l2 hl hr
    refine ⟨fun zb M1' hM => hk M1' (fun M2 K2 h2 hk2 => hr M2 K2 h2 (fun N hN => t38 N l2 K2 _ (hf M2 L2 h2) hN (fun _ M2' h2' => hk2 _ ⟨_, _, _, _, hM, h2', ee_byB_0 (v := 0) hE (fun _ => rfl) t1 t2 t3 t4 t5 t6 t7 t8 (fun e => by rw [hl e]), ⟨fun _ => rfl, rfl, rfl, rfl, rfl, rfl, rfl, rfl, rfl, rfl⟩⟩) (fun z9 => absurd z9 zb))), fun zb M1' hM => hk M1' (fun M2 K2 h2 hk2 => hr M2 K2 h2 (fun N hN => t38 N l2 K2 _ (hf M2 L2 h2) hN (fun z9 => absurd zb z9) (fun _ M2' h2' => hk2 _ ⟨_, _, _, _, hM.over, h2', ee_byB_0 (v := 1) hE (fun q => absurd q z) t1 t2 t3 t4 t5 t6 t7 t8 hl, ⟨fun _ => rfl, rfl, rfl, rfl, rfl, rfl, rfl, rfl, rfl, rfl⟩⟩)))⟩
  rw [e3]
  refine ⟨fun h0 => ?_, fun h0 => ⟨fun hb => ?_, fun hb => ⟨fun z => absurd z (some3n hrr), fun n5 _ z5 => ?_, ho⟩⟩⟩
  · have h1'' : A1 (mz_si M1 (16, 0) 3 0) (mz_si m1 (16, 0) 3 0) (lu L1 5 n (L1 5 n)) := by rw [hid]; exact h1'
    have go := fun z => rB z (L1 5 n) (L2 38 n) id (fun M2 K2 h2 kk => ⟨0, ha, by decide, 0, ha, by decide, fun h9 => absurd ((h2.1 51 0 rfl).symm.trans h9) z, fun _ => ⟨0, ha, by decide, fun _ => kk M2 (by rw [hid2]; exact h2), fun h9 => absurd ((h2.1 55 0 rfl).trans h0) h9⟩⟩)
    exact t40 _ _ h1'' rA (fun z => (go z).1) (fun z => (go z).2)
  · have h1'' : A1 (mz_si M1 (16, 0) 3 0) (mz_si m1 (16, 0) 3 0) (lu L1 5 n (L1 5 n)) := by rw [hid]; exact h1'
    have go := fun z => rB z (L1 5 n) (L2 38 n) id (fun M2 K2 h2 kk => ⟨0, ha, by decide, 0, ha, by decide, fun h9 => absurd ((h2.1 51 0 rfl).symm.trans h9) z, fun _ => ⟨0, ha, by decide, fun h9 => absurd ((h2.1 55 0 rfl).symm.trans h9) h0, fun _ => ⟨fun _ => kk M2 (by rw [hid2]; exact h2), fun h9 => absurd hb h9⟩⟩⟩)
    exact t40 _ _ h1'' rA (fun z => (go z).1) (fun z => (go z).2)
  · have e := some3 hrr z5
    subst e
    refine pl_add h1' (fun M8 h8 => ?_)
    have go := fun z => rB z (row24 (L1 5 n5) 13) (row24 (L2 38 n5) 13) (fun e => by rw [e]) (fun M2 K2 h2 kk => ⟨0, ha, by decide, 0, ha, by decide, fun h9 => absurd ((h2.1 51 0 rfl).symm.trans h9) z, fun _ => ⟨0, ha, by decide, fun h9 => absurd ((h2.1 55 0 rfl).symm.trans h9) h0, fun _ => ⟨fun h9 => absurd h9 hb, fun _ => mo_keep h2 (hf M2 L2 h2) t6.1 (fun M9 h9 => kk M9 h9)⟩⟩⟩)
    exact t40 M8 _ h8 (fun z => absurd (t3 z) h0) (fun z => (go z).1) (fun z => (go z).2)
theorem ee_byA_1 {m1 m2 : MzM} {L1 L2 : MzV} {n : Nat} {l1 l2 : List Int32} (hE : EE m1 L1 m2 L2) (h0 : mz_i m2 (55, 0) 1 = 0) (t1 : mz_i m2 (53, 0) 1 = 2) (t2 : mz_i m1 (16, 1) 2 = mz_i m2 (51, 0) 1) (t3 : mz_i m2 (51, 0) 1 = 0 → mz_i m2 (55, 0) 1 = 0) (t4 : L1 17 1 = []) (t5 : mz_i m1 (16, 1) 6 = 0) (t6 : filE m2 n) (t7 : mz_r m1 (16, 1) 4 = some (3, n)) (t8 : mz_i m2 (54, 0) 1 = Int32.ofNat n) (hl : L1 5 n = L2 38 n → l1 = l2) : EE (mz_si m1 (16, 1) 3 0) (lu L1 5 n l1) m2 (lu L2 38 n l2) := by
  obtain ⟨s1, s2, s3, s4, s5, s6, s7, s8, s9, s10, s11, s12, s13, s14, s15, _⟩ := hE.2.1
  obtain ⟨hb, he⟩ := hE.2.2.2.1
  have hu : ¬ mz_i m1 (3, n) 6 = 0 := (hb n t6.1).2.2.2 ((hb n t6.1).2.2.1.mpr (Or.inr ⟨t1, t8⟩))
  refine ⟨hE.1, ⟨s1, s2, s3, s4, s5, s6, s7, s8, s9, s10, s11, s12, s13, s14, h0.symm, Or.inr (Or.inr ⟨t1, t2, t3, t4, t5, n, t6, t7, t8⟩)⟩, fun n' hn' => nodeE_congr' rfl rfl rfl rfl rfl rfl rfl rfl rfl (fun z => ?_) (fun z => ?_) (hE.2.2.1 n' hn'), ⟨hb, he⟩, hE.2.2.2.2.1, hE.2.2.2.2.2.1, hE.2.2.2.2.2.2.1, hE.2.2.2.2.2.2.2.1, hE.2.2.2.2.2.2.2.2⟩
  · by_cases hnn : n' = n
    · subst hnn
      rw [lu_same, lu_same, hl z]
    · rw [lu_ne L1 _ (fun q => hnn q.2), lu_ne L2 _ (fun q => hnn q.2)]
      exact z
  · by_cases hnn : n' = n
    · subst hnn
      exact absurd z hu
    · rw [lu_ne L2 _ (fun q => hnn q.2)]
theorem ee_byB_1 {m1 m2 : MzM} {L1 L2 : MzV} {n : Nat} {l1 l2 : List Int32} {v : Int32} (hE : EE m1 L1 m2 L2) (hv : mz_i m2 (51, 0) 1 = 0 → v = 0) (t1 : mz_i m2 (53, 0) 1 = 2) (t2 : mz_i m1 (16, 1) 2 = mz_i m2 (51, 0) 1) (t3 : mz_i m2 (51, 0) 1 = 0 → mz_i m2 (55, 0) 1 = 0) (t4 : L1 17 1 = []) (t5 : mz_i m1 (16, 1) 6 = 0) (t6 : filE m2 n) (t7 : mz_r m1 (16, 1) 4 = some (3, n)) (t8 : mz_i m2 (54, 0) 1 = Int32.ofNat n) (hl : L1 5 n = L2 38 n → l1 = l2) : EE (mz_si m1 (16, 1) 3 v) (lu L1 5 n l1) (mz_si m2 (55, 0) 1 v) (lu L2 38 n l2) := by
  obtain ⟨s1, s2, s3, s4, s5, s6, s7, s8, s9, s10, s11, s12, s13, s14, s15, _⟩ := hE.2.1
  obtain ⟨hb, he⟩ := hE.2.2.2.1
  have hu : ¬ mz_i m1 (3, n) 6 = 0 := (hb n t6.1).2.2.2 ((hb n t6.1).2.2.1.mpr (Or.inr ⟨t1, t8⟩))
  refine ⟨hE.1, ⟨s1, s2, s3, s4, s5, s6, s7, s8, s9, s10, s11, s12, s13, s14, rfl, Or.inr (Or.inr ⟨t1, t2, hv, t4, t5, n, t6, t7, t8⟩)⟩, fun n' hn' => nodeE_congr' rfl rfl rfl rfl rfl rfl rfl rfl rfl (fun z => ?_) (fun z => ?_) (hE.2.2.1 n' hn'), ⟨hb, he⟩, hE.2.2.2.2.1, hE.2.2.2.2.2.1, hE.2.2.2.2.2.2.1, hE.2.2.2.2.2.2.2.1, hE.2.2.2.2.2.2.2.2⟩
  · by_cases hnn : n' = n
    · subst hnn
      rw [lu_same, lu_same, hl z]
    · rw [lu_ne L1 _ (fun q => hnn q.2), lu_ne L2 _ (fun q => hnn q.2)]
      exact z
  · by_cases hnn : n' = n
    · subst hnn
      exact absurd z hu
    · rw [lu_ne L2 _ (fun q => hnn q.2)]
theorem bring_1 {m1 m2 M1 : MzM} {L1 L2 : MzV} {a b : Int32} {K : MzM → Prop} (hE : EE m1 L1 m2 L2) (ha : a.toInt = ((1 : Nat) : Int)) (h1 : A1 M1 m1 L1) (t1 : mz_i m2 (53, 0) 1 = 2) (hk : ∀ M1', (∀ (M2 : MzM) (K2 : MzM → Prop), A2 M2 m2 L2 → (∀ M2', OO m1 m2 M1' M2' → K2 M2') → wp_Mo_bringOne a b M2 K2) → K M1') : wp_Way_receiveByte 1 b M1 K := by
  obtain ⟨_, _, _, _, _, _, _, _, _, _, _, _, _, hmode, hheld, htr⟩ := hE.2.1
  rcases htr with ⟨z, _⟩ | ⟨z, _⟩ | ⟨_, t2, t3, t4, t5, n, t6, t7, t8⟩
  · exact absurd (z.symm.trans t1) (by decide)
  · exact absurd (z.symm.trans t1) (by decide)
  have hrr : mz_r M1 (16, 1) 4 = some (3, n) := (h1.2.1 _ _).trans t7
  have ho : mz_r M1 (16, 1) 4 = none ∨ ∃ n1 : Nat, n1 < 16 ∧ mz_r M1 (16, 1) 4 = some (3, n1) := Or.inr ⟨n, t6.1, hrr⟩
  have e3 : mz_i M1 (16, 1) 3 = mz_i m2 (55, 0) 1 := (h1.1 _ _ rfl).trans hheld
  have hf : ∀ (M2 : MzM) (L : MzV), A2 M2 m2 L → (mz_i M2 (54, 0) 1).toInt = (n : Int) := fun M2 L h => by
    rw [h.1 54 1 rfl, t8]
    exact itn (by have := t6.1; omega)
  refine ⟨fun z => absurd z (some3n hrr), fun n1 _ z1 => ?_, ho⟩
  rintro _ rfl
  have h1' := h1.si (o := (16, 1)) (k := 3) (v := 0) rfl
  -- the rest, from a memory that has the row l
  have t40 : ∀ (N : MzM) (l : List Int32), A1 N (mz_si m1 (16, 1) 3 0) (lu L1 5 n l) → (mz_i m2 (51, 0) 1 = 0 → ∀ M1', A1 M1' (mz_si m1 (16, 1) 3 0) (lu L1 5 n (row24 l b)) → K M1') → (¬ mz_i m2 (51, 0) 1 = 0 → ¬ b = 13 → ∀ M1', A1 M1' (mz_si m1 (16, 1) 3 0) (lu L1 5 n (row24 l b)) → K M1') → (¬ mz_i m2 (51, 0) 1 = 0 → b = 13 → ∀ M1', A1 M1' (mz_si (mz_si m1 (16, 1) 3 0) (16, 1) 3 1) (lu L1 5 n l) → K M1') → wp_Way_receiveByte_40 1 K b N := by
    intro N l hN k1 k2 k3
    have hr : mz_r N (16, 1) 4 = some (3, n) := (hN.2.1 _ _).trans t7
    have ho' : mz_r N (16, 1) 4 = none ∨ ∃ n1 : Nat, n1 < 16 ∧ mz_r N (16, 1) 4 = some (3, n1) := Or.inr ⟨n, t6.1, hr⟩
    have e2 : mz_i N (16, 1) 2 = mz_i m2 (51, 0) 1 := (hN.1 _ _ rfl).trans t2
    have ad : ∀ n', mz_r N (16, 1) 4 = some (3, n') → (∀ M1', A1 M1' (mz_si m1 (16, 1) 3 0) (lu L1 5 n (row24 l b)) → K M1') → wp_Row_add n' b N (fun M20 => K M20) := by
      intro n' hn' kk
      have e := some3 hr hn'
      subst e
      refine pl_add hN (fun M' h' => kk M' ?_)
      rw [lu_same, lu_lu] at h'
      exact h'
    unfold wp_Way_receiveByte_40
    rw [e2]
    refine ⟨fun z => ⟨fun q => absurd q (some3n hr), fun n17 _ q => ad n17 q (k1 z), ho'⟩, fun z => ⟨fun zb => ⟨fun q => absurd q (some3n hr), fun n25 _ q => ad n25 q (k2 z zb), ho'⟩, fun zb => ?_⟩⟩
    rintro _ rfl
    exact k3 z zb _ (hN.si (o := (16, 1)) (k := 3) (v := 1) rfl)
  have hid : lu L1 5 n (L1 5 n) = L1 := lu_id L1 5 n
  have hid2 : lu L2 38 n (L2 38 n) = L2 := lu_id L2 38 n
  -- the reference behind its first part
  have t38 : ∀ (N : MzM) (l : List Int32) (K2 : MzM → Prop) (y3 : Int32), y3.toInt = (n : Int) → A2 N m2 (lu L2 38 n l) → (¬ b = 13 → ∀ M2', A2 M2' (mz_si m2 (55, 0) 1 0) (lu L2 38 n (row24 l b)) → K2 M2') → (b = 13 → ∀ M2', A2 M2' (mz_si m2 (55, 0) 1 1) (lu L2 38 n l) → K2 M2') → wp_Mo_bringOne_38 K2 a b y3 N := by
    intro N l K2 y3 hy3 hN k1 k2
    refine ⟨fun zb => ⟨Or.inl rfl, 1, ha, by decide, ?_⟩, fun zb => ⟨Or.inr rfl, 1, ha, by decide, ?_⟩⟩
    · rintro _ rfl
      have h3 := hN.si (t := 55) (k := 1) (v := 0) rfl
      refine ⟨fun z => absurd z zb, fun _ => mo_keep h3 hy3 t6.1 (fun M' h' => k1 zb M' ?_)⟩
      rw [lu_same, lu_lu] at h'
      exact h'
    · rintro _ rfl
      have h3 := hN.si (t := 55) (k := 1) (v := 1) rfl
      exact ⟨fun _ => k2 zb _ h3, fun z => absurd zb z⟩
  have rA : mz_i m2 (51, 0) 1 = 0 → ∀ (M1' : MzM), A1 M1' (mz_si m1 (16, 1) 3 0) (lu L1 5 n (row24 (L1 5 n) b)) → K M1' := by
    intro z M1' hM
    refine hk M1' (fun M2 K2 h2 hk2 => ⟨1, ha, by decide, 1, ha, by decide, fun _ => mo_keep h2 (hf M2 L2 h2) t6.1 (fun M2' h2' => hk2 _ ⟨_, _, _, _, hM, h2', ee_byA_1 hE (t3 z) t1 t2 t3 t4 t5 t6 t7 t8 (fun e => by rw [e]), ⟨fun _ => rfl, rfl, rfl, rfl, rfl, rfl, rfl, rfl, rfl, rfl⟩⟩), fun h9 => absurd ((h2.1 51 1 rfl).trans z) h9⟩)
  have rB : ¬ mz_i m2 (51, 0) 1 = 0 → ∀ (l1 l2 : List Int32), (L1 5 n = L2 38 n → l1 = l2) → (∀ (M2 : MzM) (K2 : MzM → Prop), A2 M2 m2 L2 → (∀ N, A2 N m2 (lu L2 38 n l2) → wp_Mo_bringOne_38 K2 a b (mz_i M2 (54, 0) 1) N) → wp_Mo_bringOne a b M2 K2) → (¬ b = 13 → ∀ M1', A1 M1' (mz_si m1 (16, 1) 3 0) (lu L1 5 n (row24 l1 b)) → K M1') ∧ (b = 13 → ∀ M1', A1 M1' (mz_si (mz_si m1 (16, 1) 3 0) (16, 1) 3 1) (lu L1 5 n l1) → K M1') := by
    intro z l1 l2 hl hr
    refine ⟨fun zb M1' hM => hk M1' (fun M2 K2 h2 hk2 => hr M2 K2 h2 (fun N hN => t38 N l2 K2 _ (hf M2 L2 h2) hN (fun _ M2' h2' => hk2 _ ⟨_, _, _, _, hM, h2', ee_byB_1 (v := 0) hE (fun _ => rfl) t1 t2 t3 t4 t5 t6 t7 t8 (fun e => by rw [hl e]), ⟨fun _ => rfl, rfl, rfl, rfl, rfl, rfl, rfl, rfl, rfl, rfl⟩⟩) (fun z9 => absurd z9 zb))), fun zb M1' hM => hk M1' (fun M2 K2 h2 hk2 => hr M2 K2 h2 (fun N hN => t38 N l2 K2 _ (hf M2 L2 h2) hN (fun z9 => absurd zb z9) (fun _ M2' h2' => hk2 _ ⟨_, _, _, _, hM.over, h2', ee_byB_1 (v := 1) hE (fun q => absurd q z) t1 t2 t3 t4 t5 t6 t7 t8 hl, ⟨fun _ => rfl, rfl, rfl, rfl, rfl, rfl, rfl, rfl, rfl, rfl⟩⟩)))⟩
  rw [e3]
  refine ⟨fun h0 => ?_, fun h0 => ⟨fun hb => ?_, fun hb => ⟨fun z => absurd z (some3n hrr), fun n5 _ z5 => ?_, ho⟩⟩⟩
  · have h1'' : A1 (mz_si M1 (16, 1) 3 0) (mz_si m1 (16, 1) 3 0) (lu L1 5 n (L1 5 n)) := by rw [hid]; exact h1'
    have go := fun z => rB z (L1 5 n) (L2 38 n) id (fun M2 K2 h2 kk => ⟨1, ha, by decide, 1, ha, by decide, fun h9 => absurd ((h2.1 51 1 rfl).symm.trans h9) z, fun _ => ⟨1, ha, by decide, fun _ => kk M2 (by rw [hid2]; exact h2), fun h9 => absurd ((h2.1 55 1 rfl).trans h0) h9⟩⟩)
    exact t40 _ _ h1'' rA (fun z => (go z).1) (fun z => (go z).2)
  · have h1'' : A1 (mz_si M1 (16, 1) 3 0) (mz_si m1 (16, 1) 3 0) (lu L1 5 n (L1 5 n)) := by rw [hid]; exact h1'
    have go := fun z => rB z (L1 5 n) (L2 38 n) id (fun M2 K2 h2 kk => ⟨1, ha, by decide, 1, ha, by decide, fun h9 => absurd ((h2.1 51 1 rfl).symm.trans h9) z, fun _ => ⟨1, ha, by decide, fun h9 => absurd ((h2.1 55 1 rfl).symm.trans h9) h0, fun _ => ⟨fun _ => kk M2 (by rw [hid2]; exact h2), fun h9 => absurd hb h9⟩⟩⟩)
    exact t40 _ _ h1'' rA (fun z => (go z).1) (fun z => (go z).2)
  · have e := some3 hrr z5
    subst e
    refine pl_add h1' (fun M8 h8 => ?_)
    have go := fun z => rB z (row24 (L1 5 n5) 13) (row24 (L2 38 n5) 13) (fun e => by rw [e]) (fun M2 K2 h2 kk => ⟨1, ha, by decide, 1, ha, by decide, fun h9 => absurd ((h2.1 51 1 rfl).symm.trans h9) z, fun _ => ⟨1, ha, by decide, fun h9 => absurd ((h2.1 55 1 rfl).symm.trans h9) h0, fun _ => ⟨fun h9 => absurd h9 hb, fun _ => mo_keep h2 (hf M2 L2 h2) t6.1 (fun M9 h9 => kk M9 h9)⟩⟩⟩)
    exact t40 M8 _ h8 (fun z => absurd (t3 z) h0) (fun z => (go z).1) (fun z => (go z).2)
theorem rr_bring : sim_bring RR := by
  intro M1 M2 ov a b hl1 hl2 hR
  obtain ⟨m1, L1, m2, L2, h1, h2, hE⟩ := hR
  unfold wh_Law_bring wp_PL_bring
  refine pz_ses (fun h => ⟨fun _ => ?_, fun h9 => absurd h9 (by decide)⟩) (fun h => ⟨fun h9 => absurd rfl h9, fun _ => Or.inl ⟨rfl, ?_⟩⟩)
  · obtain ⟨x, hx, hx2⟩ := i32_01 h
    have e53 : mz_i M1 (16, x) 1 = mz_i m2 (53, 0) x := (h1.1 _ _ rfl).trans (hE.ses hx2).2.2.2.2.2.2.2.2.2.2.2.2.2.1
    refine ⟨x, hx, hx2, fun h0 => ⟨x, hx, hx2, ?_⟩, fun h0 => Or.inr ⟨rfl, ?_⟩⟩
    · rw [e53] at h0
      have go : ∀ K : MzM → Prop, (∀ M1', (∀ (M2 : MzM) (K2 : MzM → Prop), A2 M2 (mz_si m2 (30, 0) 1 0) L2 → (∀ M2', OO m1 (mz_si m2 (30, 0) 1 0) M1' M2' → K2 M2') → wp_Mo_bringOne a (b &&& 255) M2 K2) → K M1') → wp_Way_receiveByte x (b &&& 255) M1 K := by
        intro K hk
        have hx' : x = 0 ∨ x = 1 := by omega
        rcases hx' with rfl | rfl
        · exact bring_0 hE.thr hx h1 h0 hk
        · exact bring_1 hE.thr hx h1 h0 hk
      refine go _ (fun M1' hc => ?_)
      intro N hN
      have h2' : A2 N (mz_si m2 (30, 0) 1 0) L2 := by rw [hN]; exact h2.si (t := 30) rfl
      refine mo_ses (fun _ => ⟨fun _ => ⟨x, hx, hx2, fun _ => hc N _ h2' (fun M2' hO => ⟨hO.thr, hO.rr⟩), fun h9 => absurd ((h2'.1 53 x rfl).trans h0) h9⟩, fun h9 => absurd h9 (by decide)⟩) (fun h9 => absurd h h9)
    · rw [e53] at h0
      rintro M rfl
      refine mo_ses (fun _ => ⟨fun _ => ⟨x, hx, hx2, fun h9 => absurd ((h2.1 53 x rfl).symm.trans h9) h0, fun _ => ?_⟩, fun h9 => absurd h9 (by decide)⟩) (fun h9 => absurd h h9)
      rintro M rfl
      exact ⟨rfl, m1, L1, _, L2, h1, (h2.si (t := 30) (k := 1) (v := 0) rfl).si (t := 30) (k := 1) (v := 2) rfl, (hE.c30 0).c30 2⟩
  · rintro M rfl
    refine mo_ses (fun h9 => absurd h9 h) (fun _ => ⟨fun h9 => absurd rfl h9, fun _ => ?_⟩)
    rintro M rfl
    exact ⟨rfl, m1, L1, _, L2, h1, (h2.si (t := 30) (k := 1) (v := 0) rfl).si (t := 30) (k := 1) (v := 1) rfl, (hE.c30 0).c30 1⟩
