theorem cop_int {m1 m2 : MzM} {L1 L2 : MzV} (hE : EE m1 L1 m2 L2) : ∃ (m1' m2' : MzM), EE m1' L1 m2' L2 ∧ (∀ (M : MzM) (K : MzM → Prop), A1 M m1 L1 → (∀ M', A1 M' m1' L1 → K M') → wp_Cop_interrupt M K) ∧ (∀ (M : MzM) (K : MzM → Prop), A2 M m2 L2 → (∀ M', A2 M' m2' L2 → K M') → wp_Mo_loseTry M K) := by
  obtain ⟨⟨c1, c2⟩, c3⟩ := hE.2.2.2.2.2.2.1
  have cl : mz_i m1 (22, 0) 5 ≤ 0 → ∀ (M : MzM) (K : MzM → Prop), A1 M m1 L1 → (∀ M', A1 M' (mz_si (mz_si m1 (22, 0) 6 0) (22, 0) 7 1) L1 → K M') → wp_Cop_interrupt M K := by
    intro ht M K h hk
    rintro _ rfl
    have e5 : mz_i (mz_si M (22, 0) 6 0) (22, 0) 5 = mz_i m1 (22, 0) 5 := h.1 (22, 0) 5 rfl
    have h1 := h.si (o := (22, 0)) (k := 6) (v := 0) rfl
    rw [e5]
    refine ⟨fun _ => ?_, fun q => absurd ht q⟩
    rintro _ rfl
    exact hk _ (h1.si (o := (22, 0)) (k := 7) (v := 1) rfl)
  have cg : ¬ mz_i m1 (22, 0) 5 ≤ 0 → ∀ (M : MzM) (K : MzM → Prop), A1 M m1 L1 → (∀ M', A1 M' (mz_si (mz_si m1 (22, 0) 6 0) (22, 0) 5 (mz_i m1 (22, 0) 5 - 1)) L1 → K M') → wp_Cop_interrupt M K := by
    intro ht M K h hk
    rintro _ rfl
    have e5 : mz_i (mz_si M (22, 0) 6 0) (22, 0) 5 = mz_i m1 (22, 0) 5 := h.1 (22, 0) 5 rfl
    have h1 := h.si (o := (22, 0)) (k := 6) (v := 0) rfl
    rw [e5]
    refine ⟨fun q => absurd q ht, fun _ => ?_⟩
    rintro _ rfl
    exact hk _ (h1.si (o := (22, 0)) (k := 5) (v := mz_i m1 (22, 0) 5 - 1) rfl)
  rcases c2 with c2 | c2
  · have rf : ∀ (M : MzM) (K : MzM → Prop), A2 M m2 L2 → (∀ M', A2 M' m2 L2 → K M') → wp_Mo_loseTry M K := fun M K h hk => ⟨fun h9 => absurd ((h.1 30 38 rfl).trans c2) h9, fun _ => hk M h⟩
    by_cases ht : mz_i m1 (22, 0) 5 ≤ 0
    · exact ⟨_, m2, ⟨hE.1, hE.2.1, hE.2.2.1, hE.2.2.2.1, hE.2.2.2.2.1, hE.2.2.2.2.2.1, ⟨⟨c1, Or.inl c2⟩, fun z => absurd (c2.symm.trans z) (by decide)⟩, hE.2.2.2.2.2.2.2.1, hE.2.2.2.2.2.2.2.2⟩, cl ht, rf⟩
    · exact ⟨_, m2, ⟨hE.1, hE.2.1, hE.2.2.1, hE.2.2.2.1, hE.2.2.2.2.1, hE.2.2.2.2.2.1, ⟨⟨c1, Or.inl c2⟩, fun z => absurd (c2.symm.trans z) (by decide)⟩, hE.2.2.2.2.2.2.2.1, hE.2.2.2.2.2.2.2.2⟩, cg ht, rf⟩
  · obtain ⟨d1, d2, d3, ⟨d4, n, hn, d5⟩, d6, d7⟩ := c3 c2
    have e1 : (mz_i m1 (22, 0) 5).toInt = (n : Int) := by rw [d4, d5]; exact itn (by omega)
    have e2 : (mz_i m2 (30, 0) 42).toInt = (n : Int) := by rw [d5]; exact itn (by omega)
    have on1 : ∀ M, A2 M m2 L2 → ¬ mz_i M (30, 0) 38 = 0 := fun M h => by rw [h.1 30 38 rfl, c2]; decide
    by_cases h0 : n = 0
    · have ht : mz_i m1 (22, 0) 5 ≤ 0 := (ile (n := 0) e1 rfl).mpr (by omega)
      have ht2 : mz_i m2 (30, 0) 42 ≤ 0 := (ile (n := 0) e2 rfl).mpr (by omega)
      subst h0
      refine ⟨_, mz_si (mz_si m2 (30, 0) 43 5) (30, 0) 42 0, ⟨hE.1, hE.2.1, hE.2.2.1, hE.2.2.2.1, hE.2.2.2.2.1, hE.2.2.2.2.2.1, ⟨⟨c1, Or.inr c2⟩, fun _ => ⟨d1, d2, d3, ⟨d4.trans d5, 0, by omega, rfl⟩, Or.inr ⟨rfl, rfl⟩, fun z => absurd z (by decide)⟩⟩, hE.2.2.2.2.2.2.2.1, hE.2.2.2.2.2.2.2.2⟩, cl ht, fun M K h hk => ⟨fun _ => ⟨fun _ => ?_, fun h9 => absurd ?_ h9⟩, fun h9 => absurd h9 (on1 M h)⟩⟩
      · rintro _ rfl
        have e5 : mz_i (mz_si M (30, 0) 43 5) (30, 0) 42 = mz_i m2 (30, 0) 42 := h.1 30 42 rfl
        have h1 := h.si (t := 30) (k := 43) (v := 5) rfl
        rw [e5]
        refine ⟨fun _ => ?_, fun q => absurd ht2 q⟩
        rintro _ rfl
        exact hk _ (h1.si (t := 30) (k := 42) (v := 0) rfl)
      · rw [h.1 30 42 rfl]
        exact ht2
    · have ht : ¬ mz_i m1 (22, 0) 5 ≤ 0 := fun q => by
        have q1 := (ile (n := 0) e1 rfl).mp q
        omega
      have ht2 : ¬ mz_i m2 (30, 0) 42 ≤ 0 := fun q => by
        have q1 := (ile (n := 0) e2 rfl).mp q
        omega
      have hp : mz_i m2 (30, 0) 42 - 1 = Int32.ofNat (n - 1) := i32_pred (by rw [d5, Nat.sub_add_cancel (by omega)]) (by omega)
      refine ⟨_, mz_si (mz_si m2 (30, 0) 43 0) (30, 0) 42 (mz_i m2 (30, 0) 42 - 1), ⟨hE.1, hE.2.1, hE.2.2.1, hE.2.2.2.1, hE.2.2.2.2.1, hE.2.2.2.2.2.1, ⟨⟨c1, Or.inr c2⟩, fun _ => ⟨d1, d2, d3, ⟨congrArg (· - 1) d4, n - 1, by omega, hp⟩, ?_, fun z => absurd z (by decide)⟩⟩, hE.2.2.2.2.2.2.2.1, hE.2.2.2.2.2.2.2.2⟩, cg ht, fun M K h hk => ⟨fun _ => ⟨fun h9 => absurd h9 ?_, fun _ => ?_⟩, fun h9 => absurd h9 (on1 M h)⟩⟩
      · rcases d6 with ⟨d6, _⟩ | ⟨d6, d8⟩
        · exact Or.inl ⟨d6, rfl, Or.inl rfl⟩
        · sorry
      · rw [h.1 30 42 rfl]
        exact ht2
      · rintro _ rfl
        have e5 : mz_i (mz_si M (30, 0) 43 0) (30, 0) 42 = mz_i m2 (30, 0) 42 := h.1 30 42 rfl
        have h1 := h.si (t := 30) (k := 43) (v := 0) rfl
        rw [e5]
        refine ⟨fun q => absurd q ht2, fun _ => ?_⟩
        rintro _ rfl
        exact hk _ (h1.si (t := 30) (k := 42) (v := mz_i m2 (30, 0) 42 - 1) rfl)
