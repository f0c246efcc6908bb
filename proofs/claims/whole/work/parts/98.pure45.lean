/-- what comes out of a byte -/
def OQ (m1 m2 : MzM) (X : Nat) (b : Int32) (M1' M2' : MzM) : Prop := (¬ (mz_i m2 (39, 0) X = 0 ∧ ¬ mz_i m2 (40, 0) X = 0 ∧ b = 10) ∧ OB m1 m2 X b M1' M2') ∨ ((mz_i m2 (39, 0) X = 0 ∧ ¬ mz_i m2 (40, 0) X = 0 ∧ b = 10) ∧ OL m1 m2 X M1' M2')
theorem OQ.rr {m1 m2 M1 M2 : MzM} {X : Nat} {b : Int32} (h : OQ m1 m2 X b M1 M2) : RR M1 M2 := by
  rcases h with ⟨_, m1', L1', m2', L2', h1, h2, h3, _⟩ | ⟨_, m1', L1', m2', L2', h1, h2, h3, _⟩
  · exact ⟨m1', L1', m2', L2', h1, h2, h3⟩
  · exact ⟨m1', L1', m2', L2', h1, h2, h3⟩
theorem acc_0 {m1 m2 M1 : MzM} {L1 L2 : MzV} {a b : Int32} {K : MzM → Prop} (hob : ∀ c : Nat, c < 21 → obPred 0 c) (hE : EE m1 L1 m2 L2) (ha : a.toInt = ((0 : Nat) : Int)) (h1 : A1 M1 m1 L1) (hk : ∀ M1', (∀ (M2 : MzM) (K2 : MzM → Prop), A2 M2 m2 L2 → (∀ M2', OQ m1 m2 0 b M1' M2' → K2 M2') → wp_Mo_take1 a b M2 K2) → K M1') : wp_Ses_accept 0 b M1 K := by
  refine accept_of ?_
  by_cases hl : mz_i m2 (39, 0) 0 = 0 ∧ ¬ mz_i m2 (40, 0) 0 = 0 ∧ b = 10
  · obtain ⟨o0, t0, rfl⟩ := hl
    obtain ⟨s1, s2, s3, s4, s5, s6, s7, s8, s9, s10, s11, s12, s13, s14, s15, s16⟩ := hE.1
    have o1 : mz_i m1 (12, 0) 4 = 0 := by
      rcases s4 with ⟨_, q⟩ | ⟨q, _⟩ | ⟨q, q2⟩
      · exact q
      · exact absurd (o0.symm.trans q) (by decide)
      · rw [o0] at q2
        exact absurd q2 (by decide)
    have e4 : mz_i M1 (12, 0) 4 = 0 := (h1.1 _ _ rfl).trans o1
    have e5 : mz_i (mz_si M1 (12, 0) 4 0) (12, 0) 5 = mz_i m2 (40, 0) 0 := (h1.1 _ _ rfl).trans s5
    rintro _ rfl
    have h2 := h1.si (o := (12, 0)) (k := 4) (v := 0) rfl
    refine ⟨fun z => absurd e4 z, fun _ => ⟨fun z => absurd z (by decide), fun _ => ?_⟩⟩
    rintro _ rfl
    rw [e5]
    have h3 := h2.si (o := (12, 0)) (k := 5) (v := 0) rfl
    refine ⟨fun z => absurd z t0, fun _ => ⟨fun z => absurd rfl z, fun _ => ⟨Or.inr rfl, ?_⟩⟩⟩
    refine ⟨fun _ => lin_0 hob hE o0 ha h3 (fun M1' hr => hk M1' (fun M2 K2 hA hk2 => mo_take1_line hA ha (by decide) o0 t0 (fun M3 h4 => hr M3 K2 h4 (fun M2' hO => hk2 M2' (Or.inr ⟨⟨o0, t0, rfl⟩, hO⟩))))), fun z => absurd z (by decide)⟩
  · exact rd_0 hE ha h1 (fun M1' hr => ⟨fun z => absurd rfl z, fun _ => hk M1' (fun M2 K2 h2 hk2 => hr M2 K2 h2 (fun M2' hO => hk2 M2' (Or.inl ⟨hl, hO⟩)))⟩) (fun o0 t0 hb => absurd ⟨o0, t0, hb⟩ hl)
theorem acc_1 {m1 m2 M1 : MzM} {L1 L2 : MzV} {a b : Int32} {K : MzM → Prop} (hob : ∀ c : Nat, c < 21 → obPred 1 c) (hE : EE m1 L1 m2 L2) (ha : a.toInt = ((1 : Nat) : Int)) (h1 : A1 M1 m1 L1) (hk : ∀ M1', (∀ (M2 : MzM) (K2 : MzM → Prop), A2 M2 m2 L2 → (∀ M2', OQ m1 m2 1 b M1' M2' → K2 M2') → wp_Mo_take1 a b M2 K2) → K M1') : wp_Ses_accept 1 b M1 K := by
  refine accept_of ?_
  by_cases hl : mz_i m2 (39, 0) 1 = 0 ∧ ¬ mz_i m2 (40, 0) 1 = 0 ∧ b = 10
  · obtain ⟨o0, t0, rfl⟩ := hl
    obtain ⟨s1, s2, s3, s4, s5, s6, s7, s8, s9, s10, s11, s12, s13, s14, s15, s16⟩ := hE.2.1
    have o1 : mz_i m1 (12, 1) 4 = 0 := by
      rcases s4 with ⟨_, q⟩ | ⟨q, _⟩ | ⟨q, q2⟩
      · exact q
      · exact absurd (o0.symm.trans q) (by decide)
      · rw [o0] at q2
        exact absurd q2 (by decide)
    have e4 : mz_i M1 (12, 1) 4 = 0 := (h1.1 _ _ rfl).trans o1
    have e5 : mz_i (mz_si M1 (12, 1) 4 0) (12, 1) 5 = mz_i m2 (40, 0) 1 := (h1.1 _ _ rfl).trans s5
    rintro _ rfl
    have h2 := h1.si (o := (12, 1)) (k := 4) (v := 0) rfl
    refine ⟨fun z => absurd e4 z, fun _ => ⟨fun z => absurd z (by decide), fun _ => ?_⟩⟩
    rintro _ rfl
    rw [e5]
    have h3 := h2.si (o := (12, 1)) (k := 5) (v := 0) rfl
    refine ⟨fun z => absurd z t0, fun _ => ⟨fun z => absurd rfl z, fun _ => ⟨Or.inr rfl, ?_⟩⟩⟩
    refine ⟨fun _ => lin_1 hob hE o0 ha h3 (fun M1' hr => hk M1' (fun M2 K2 hA hk2 => mo_take1_line hA ha (by decide) o0 t0 (fun M3 h4 => hr M3 K2 h4 (fun M2' hO => hk2 M2' (Or.inr ⟨⟨o0, t0, rfl⟩, hO⟩))))), fun z => absurd z (by decide)⟩
  · exact rd_1 hE ha h1 (fun M1' hr => ⟨fun z => absurd rfl z, fun _ => hk M1' (fun M2 K2 h2 hk2 => hr M2 K2 h2 (fun M2' hO => hk2 M2' (Or.inl ⟨hl, hO⟩)))⟩) (fun o0 t0 hb => absurd ⟨o0, t0, hb⟩ hl)
theorem rr_feed_of (h0 : ∀ c : Nat, c < 21 → obPred 0 c) (h1 : ∀ c : Nat, c < 21 → obPred 1 c) : sim_feed RR := by
  intro M1 M2 a b hl1 hl2 hR
  obtain ⟨m1, L1, m2, L2, hA1, hA2, hE⟩ := hR
  refine pl_ses (fun h => ⟨fun _ => ?_, fun h9 => absurd h9 (by decide)⟩) (fun h => ⟨fun h9 => absurd rfl h9, fun _ => ?_⟩)
  · obtain ⟨x, hx, hx2⟩ := i32_01 h
    refine ⟨x, hx, hx2, ?_⟩
    have go : ∀ K : MzM → Prop, (∀ M1', (∀ (M2 : MzM) (K2 : MzM → Prop), A2 M2 (mz_si m2 (30, 0) 1 0) L2 → (∀ M2', OQ m1 (mz_si m2 (30, 0) 1 0) x (b &&& 255) M1' M2' → K2 M2') → wp_Mo_take1 a (b &&& 255) M2 K2) → K M1') → wp_Ses_accept x (b &&& 255) M1 K := by
      intro K hk
      rcases xcases hx2 with rfl | rfl
      · exact acc_0 h0 hE.thr hx hA1 hk
      · exact acc_1 h1 hE.thr hx hA1 hk
    refine go _ (fun M1' hc => ?_)
    intro N hN
    have h2' : A2 N (mz_si m2 (30, 0) 1 0) L2 := by rw [hN]; exact hA2.si (t := 30) rfl
    exact mo_ses (fun _ => ⟨fun _ => hc N _ h2' (fun M2' hO => ⟨rfl, hO.rr⟩), fun h9 => absurd h9 (by decide)⟩) (fun h9 => absurd h h9)
  · rintro M rfl
    exact mo_ses (fun h9 => absurd h9 h) (fun _ => ⟨fun h9 => absurd rfl h9, fun _ => ⟨rfl, rr_clr M1 M2 ⟨m1, L1, m2, L2, hA1, hA2, hE⟩⟩⟩)
