theorem dirE_rm {m2 : MzM} {n k : Nat} (h : dirE m2 n) (hn : ¬ n = k) : dirE (mz_si m2 (32, 0) k 0) n := by
  refine ⟨h.1, ?_, h.2.2⟩
  rw [mz_i_si, if_neg (fun z => hn z.2)]
  exact h.2.1
theorem filE_rm {m2 : MzM} {n k : Nat} (h : filE m2 n) (hn : ¬ n = k) : filE (mz_si m2 (32, 0) k 0) n := by
  refine ⟨h.1, ?_, h.2.2⟩
  rw [mz_i_si, if_neg (fun z => hn z.2)]
  exact h.2.1
theorem filE_rm' {m2 : MzM} {n k : Nat} (h : filE (mz_si m2 (32, 0) k 0) n) : filE m2 n ∧ ¬ n = k := by
  obtain ⟨h1, h2, h3⟩ := h
  rw [mz_i_si] at h2
  by_cases hn : n = k
  · rw [if_pos ⟨rfl, hn⟩] at h2
    exact absurd h2 (by decide)
  · rw [if_neg (fun z => hn z.2)] at h2
    exact ⟨⟨h1, h2, h3⟩, hn⟩
theorem sesE_rm {m1 m2 : MzM} {L1 L2 : MzV} {x k : Nat} (h : sesE m1 L1 m2 L2 x) (hc : ¬ mz_i m2 (50, 0) x = Int32.ofNat k) (hm : ¬ mz_i m2 (54, 0) x = Int32.ofNat k) : sesE (mz_si m1 (3, k) 1 0) L1 (mz_si m2 (32, 0) k 0) L2 x := by
  obtain ⟨s1, s2, s3, s4, s5, s6, s7, s8, s9, s10, s11, s12, s13, s14, s15, s16⟩ := h
  refine ⟨s1, s2, s3, s4, s5, s6, s7, s8, s9, s10, ⟨s11.1, ?_⟩, s12, s13, s14, s15, ?_⟩
  · rcases s11.2 with q | ⟨q, n, hn, e⟩
    · exact Or.inl q
    · exact Or.inr ⟨q, n, dirE_rm hn (fun z => hc (by rw [e, z])), e⟩
  · rcases s16 with t | ⟨t1, t2, t3, t4, t5⟩ | ⟨t1, t2, t2', t3, t4, n, t6, t7, t8⟩
    · exact Or.inl t
    · refine Or.inr (Or.inl ⟨t1, t2, t3, t4, ?_⟩)
      rcases t5 with t5 | ⟨n, t6, t7, t8⟩
      · exact Or.inl t5
      · exact Or.inr ⟨n, filE_rm t6 (fun z => hm (by rw [t8, z])), t7, t8⟩
    · exact Or.inr (Or.inr ⟨t1, t2, t2', t3, t4, n, filE_rm t6 (fun z => hm (by rw [t8, z])), t7, t8⟩)
/-- a node goes -/
theorem ee_rm {m1 m2 : MzM} {L1 L2 : MzV} {k : Nat} (hE : EE m1 L1 m2 L2) (hk0 : ¬ k = 0) (hk : k < 16) (hleaf : ∀ n : Nat, n < 16 → ¬ n = 0 → mz_i m2 (32, 0) n = 1 → ¬ mz_i m2 (34, 0) n = Int32.ofNat k) (hc : ∀ x : Nat, x < 2 → ¬ mz_i m2 (50, 0) x = Int32.ofNat k) (hm : ∀ x : Nat, x < 2 → ¬ mz_i m2 (54, 0) x = Int32.ofNat k) : EE (mz_si m1 (3, k) 1 0) L1 (mz_si m2 (32, 0) k 0) L2 := by
  have k1 : ∀ n q : Nat, ¬ q = 1 → mz_i (mz_si m1 (3, k) 1 0) (3, n) q = mz_i m1 (3, n) q := fun n q hq => mz_ne_k hq
  refine ⟨sesE_rm hE.1 (hc 0 (by decide)) (hm 0 (by decide)), sesE_rm hE.2.1 (hc 1 (by decide)) (hm 1 (by decide)), fun n hn => ?_, ⟨fun n hn => ?_, hE.2.2.2.1.2⟩, ⟨dirE_rm hE.2.2.2.2.1.1 (fun z => hk0 z.symm), hE.2.2.2.2.1.2.1, (k1 0 2 (by decide)).trans hE.2.2.2.2.1.2.2⟩, ?_, hE.2.2.2.2.2.2.1, hE.2.2.2.2.2.2.2.1, hE.2.2.2.2.2.2.2.2⟩
  · obtain ⟨q1, q2, q3, q4, q5, q6⟩ := hE.2.2.1 n hn
    by_cases hnk : n = k
    · subst hnk
      have e32 : mz_i (mz_si m2 (32, 0) n 0) (32, 0) n = 0 := by rw [mz_i_si, if_pos ⟨rfl, rfl⟩]
      have e1 : mz_i (mz_si m1 (3, n) 1 0) (3, n) 1 = 0 := by rw [mz_i_si, if_pos ⟨rfl, rfl⟩]
      refine ⟨Or.inl e32, q2, ?_, fun z => absurd (e32.symm.trans z) (by decide), fun z => absurd (e32.symm.trans z) (by decide), fun z => absurd rfl (filE_rm' z).2⟩
      rw [e1, e32]
      rfl
    · have e32 : mz_i (mz_si m2 (32, 0) k 0) (32, 0) n = mz_i m2 (32, 0) n := by rw [mz_i_si, if_neg (fun z => hnk z.2)]
      have e1 : mz_i (mz_si m1 (3, k) 1 0) (3, n) 1 = mz_i m1 (3, n) 1 := by rw [mz_i_si, if_neg (fun z => hnk (congrArg Prod.snd z.1))]
      refine ⟨by rw [e32]; exact q1, q2, ?_, fun z z0 => ?_, fun z => ?_, fun z => ?_⟩
      · rw [e1, e32]
        exact q3
      · rw [e32] at z
        obtain ⟨w1, w2, p, w3, w4⟩ := q4 z z0
        exact ⟨(k1 n 2 (by decide)).trans w1, w2, p, dirE_rm w3 (fun y => hleaf n hn z0 z (by rw [w4, y])), w4⟩
      · rw [e32] at z
        exact (k1 n 3 (by decide)).trans (q5 z)
      · rw [k1 n 6 (by decide)]
        exact q6 (filE_rm' z).1
  · rw [k1 n 4 (by decide), k1 n 5 (by decide), k1 n 6 (by decide)]
    exact hE.2.2.2.1.1 n hn
  · obtain ⟨d, hd⟩ := hE.2.2.2.2.2.1
    refine ⟨d, fun n p hn hn0 h1 h2 hp => hd n p hn hn0 ?_ h2 hp⟩
    rw [mz_i_si] at h1
    by_cases hnk : n = k
    · rw [if_pos ⟨rfl, hnk⟩] at h1
      exact absurd h1 (by decide)
    · rw [if_neg (fun z => hnk z.2)] at h1
      exact h1
/-- is the node n moved by a session -/
def mvd (m2 : MzM) (n : Nat) : Prop := ∃ x : Nat, x < 2 ∧ ¬ mz_i m2 (53, 0) x ≤ 0 ∧ mz_i m2 (54, 0) x = Int32.ofNat n
theorem EE.r53 {m1 m2 : MzM} {L1 L2 : MzV} (hE : EE m1 L1 m2 L2) {x : Nat} (hx : x < 2) : mz_i m2 (53, 0) x = 0 ∨ mz_i m2 (53, 0) x = 1 ∨ mz_i m2 (53, 0) x = 2 := by
  obtain ⟨_, _, _, _, _, _, _, _, _, _, _, _, _, _, _, s16⟩ := hE.ses hx
  rcases s16 with t | t | t
  · exact Or.inl t.1
  · exact Or.inr (Or.inl t.1)
  · exact Or.inr (Or.inr t.1)
theorem mvd_iff {m1 m2 : MzM} {L1 L2 : MzV} (hE : EE m1 L1 m2 L2) (n : Nat) : mvd m2 n ↔ (mvE m2 0 n 1 ∨ mvE m2 0 n 2 ∨ mvE m2 1 n 1 ∨ mvE m2 1 n 2) := by
  constructor
  · rintro ⟨x, hx, h1, h2⟩
    rcases xcases hx with rfl | rfl
    · rcases hE.r53 hx with q | q | q
      · rw [q] at h1
        exact absurd (by decide) h1
      · exact Or.inl ⟨q, h2⟩
      · exact Or.inr (Or.inl ⟨q, h2⟩)
    · rcases hE.r53 hx with q | q | q
      · rw [q] at h1
        exact absurd (by decide) h1
      · exact Or.inr (Or.inr (Or.inl ⟨q, h2⟩))
      · exact Or.inr (Or.inr (Or.inr ⟨q, h2⟩))
  · rintro (z | z | z | z)
    · exact ⟨0, by decide, by rw [z.1]; decide, z.2⟩
    · exact ⟨0, by decide, by rw [z.1]; decide, z.2⟩
    · exact ⟨1, by decide, by rw [z.1]; decide, z.2⟩
    · exact ⟨1, by decide, by rw [z.1]; decide, z.2⟩
theorem rd_iff (m2 : MzM) (x n : Nat) : rdE m2 x n = 0 ∨ mvE m2 x n 1 := by
  unfold rdE mvE
  by_cases h : mz_i m2 (53, 0) x = 1 ∧ mz_i m2 (54, 0) x = Int32.ofNat n
  · exact Or.inr h
  · rw [if_neg h]
    exact Or.inl rfl
theorem rdE_1 {m2 : MzM} {x n : Nat} (h : mvE m2 x n 1) : rdE m2 x n = 1 := if_pos h
theorem rd_le (m2 : MzM) (x n : Nat) : rdE m2 x n ≤ 1 := by
  unfold rdE
  split <;> omega
theorem pl_isBusy {n : Nat} {M mo m1 m2 : MzM} {L L1 L2 : MzV} {K : Int32 → MzM → Prop} (h : A1 M mo L) (e4 : mz_i mo (3, n) 4 = mz_i m1 (3, n) 4) (e5 : mz_i mo (3, n) 5 = mz_i m1 (3, n) 5) (hE : EE m1 L1 m2 L2) (hn : n < 16) (h1 : mvd m2 n → K 1 M) (h0 : ¬ mvd m2 n → K 0 M) : wp_Node_isBusy n M K := by
  obtain ⟨b1, b2, b3, _⟩ := hE.2.2.2.1.1 n hn
  have f4 : mz_i M (3, n) 4 = Int32.ofNat (rdE m2 0 n + rdE m2 1 n) := ((h.1 _ _ rfl).trans e4).trans b1
  have f5 : mz_i M (3, n) 5 = mz_i m1 (3, n) 5 := (h.1 _ _ rfl).trans e5
  have l0 := rd_le m2 0 n
  have l1 := rd_le m2 1 n
  have t4 : (mz_i M (3, n) 4).toInt = ((rdE m2 0 n + rdE m2 1 n : Nat) : Int) := by rw [f4]; exact itn (by omega)
  unfold wp_Node_isBusy
  rw [f5]
  refine ⟨fun z => h1 ((mvd_iff hE n).mpr ?_), fun z => ⟨fun z2 => h0 (fun w => ?_), fun z2 => h1 ((mvd_iff hE n).mpr ?_)⟩⟩
  · rcases b3.mp ((z01 b2).mp z) with q | q
    · exact Or.inr (Or.inl q)
    · exact Or.inr (Or.inr (Or.inr q))
  · have q := (ile (n := 0) t4 rfl).mp z2
    rcases (mvd_iff hE n).mp w with y | y | y | y
    · have := rdE_1 y
      omega
    · have y1 := b3.mpr (Or.inl y)
      exact absurd (z.symm.trans y1) (by decide)
    · have := rdE_1 y
      omega
    · have y1 := b3.mpr (Or.inr y)
      exact absurd (z.symm.trans y1) (by decide)
  · have q : ¬ ((rdE m2 0 n + rdE m2 1 n : Nat) : Int) ≤ 0 := fun y => z2 ((ile (n := 0) t4 rfl).mpr y)
    rcases rd_iff m2 0 n with y | y
    · rcases rd_iff m2 1 n with y2 | y2
      · omega
      · exact Or.inr (Or.inr (Or.inl y2))
    · exact Or.inl y
theorem mo_moved {n : Nat} {a : Int32} {M m m2 : MzM} {L : MzV} {K : Int32 → MzM → Prop} (h : A2 M m L) (e53 : mz_i m (53, 0) = mz_i m2 (53, 0)) (e54 : mz_i m (54, 0) = mz_i m2 (54, 0)) (ha : a = Int32.ofNat n) (h1 : mvd m2 n → K 1 M) (h0 : ¬ mvd m2 n → K 0 M) : wp_Mo_moved a M K := by
  have f0 : mz_i M (53, 0) 0 = mz_i m2 (53, 0) 0 := (h.1 53 0 rfl).trans (by rw [e53])
  have f1 : mz_i M (53, 0) 1 = mz_i m2 (53, 0) 1 := (h.1 53 1 rfl).trans (by rw [e53])
  have g0 : mz_i M (54, 0) 0 = mz_i m2 (54, 0) 0 := (h.1 54 0 rfl).trans (by rw [e54])
  have g1 : mz_i M (54, 0) 1 = mz_i m2 (54, 0) 1 := (h.1 54 1 rfl).trans (by rw [e54])
  subst ha
  have t19 : ¬ (¬ mz_i m2 (53, 0) 0 ≤ 0 ∧ mz_i m2 (54, 0) 0 = Int32.ofNat n) → wp_Mo_moved_19 K (Int32.ofNat n) M := by
    intro hn
    unfold wp_Mo_moved_19
    rw [f1, g1]
    refine ⟨fun z => h0 ?_, fun z => ⟨fun z2 => h0 ?_, fun z2 => h1 ⟨1, by decide, z, z2⟩⟩⟩
    · rintro ⟨x, hx, y1, y2⟩
      rcases xcases hx with rfl | rfl
      · exact hn ⟨y1, y2⟩
      · exact y1 z
    · rintro ⟨x, hx, y1, y2⟩
      rcases xcases hx with rfl | rfl
      · exact hn ⟨y1, y2⟩
      · exact z2 y2
  unfold wp_Mo_moved
  rw [f0, g0]
  exact ⟨fun z => t19 (fun w => w.1 z), fun z => ⟨fun z2 => h1 ⟨0, by decide, z, z2⟩, fun z2 => t19 (fun w => z2 w.2)⟩⟩
theorem not_mvd_file {m1 m2 : MzM} {L1 L2 : MzV} (hE : EE m1 L1 m2 L2) {n x : Nat} (hn : n < 16) (hx : x < 2) (h : ¬ mvd m2 n) : ¬ mz_i m2 (54, 0) x = Int32.ofNat n := by
  intro z
  obtain ⟨_, _, _, _, _, _, _, _, _, _, _, _, _, _, _, s16⟩ := hE.ses hx
  rcases s16 with t | t | t
  · rw [t.2.2.1] at z
    exact nneg hn z
  · exact h ⟨x, hx, by rw [t.1]; decide, z⟩
  · exact h ⟨x, hx, by rw [t.1]; decide, z⟩
theorem at_dir {m1 m2 : MzM} {L1 L2 : MzV} (hE : EE m1 L1 m2 L2) {n x : Nat} (hx : x < 2) (hf : filE m2 n) : ¬ mz_i m2 (50, 0) x = Int32.ofNat n := by
  intro z
  obtain ⟨_, _, _, _, _, _, _, _, _, _, s11, _, _, _, _, _⟩ := hE.ses hx
  rcases s11.2 with q | ⟨_, n', hn', e⟩
  · rw [q.2] at z
    exact nneg hf.1 z
  · have en := ofN_inj (by have := hn'.1; omega) (by have := hf.1; omega) (e.symm.trans z)
    rw [en] at hn'
    exact absurd (hn'.2.2.symm.trans hf.2.2) (by decide)
theorem fil_leaf {m1 m2 : MzM} {L1 L2 : MzV} (hE : EE m1 L1 m2 L2) {k : Nat} (hf : filE m2 k) : ∀ n : Nat, n < 16 → ¬ n = 0 → mz_i m2 (32, 0) n = 1 → ¬ mz_i m2 (34, 0) n = Int32.ofNat k := by
  intro n hn hn0 h1 z
  obtain ⟨_, _, p, hp, e⟩ := (hE.2.2.1 n hn).2.2.2.1 h1 hn0
  have en := ofN_inj (by have := hp.1; omega) (by have := hf.1; omega) (e.symm.trans z)
  rw [en] at hp
  exact absurd (hp.2.2.symm.trans hf.2.2) (by decide)
theorem fil_0 {m1 m2 : MzM} {L1 L2 : MzV} (hE : EE m1 L1 m2 L2) {k : Nat} (hf : filE m2 k) : ¬ k = 0 := by
  rintro rfl
  exact absurd (hE.2.2.2.2.1.1.2.2.symm.trans hf.2.2) (by decide)
theorem ob_0_16 : obPred 0 16 := by
  intro m1 m2 M L1 L2 fr vd a ss K hE o0 ha hfit hW hD hA hfr hss h hk
  obtain ⟨s1, s2, s3, s4, s5, s6, s7, s8, s9, s10, s11, s12, s13, s14, s15, s16⟩ := hE.1
  have hcl := spc_le (L1 13 0)
  have h30 : (L1 13 0).length ≤ 30 := (h.line 0).2.1
  have sl : spc (L2 43 0) = spc (L1 13 0) := by rw [s3]
  have hu : ¬ mz_i m1 (8, 0) 7 = 0 := hW.elim (fun z => absurd z (by decide)) id
  have hp : pth (L1 13 0) (spc (L1 13 0) + 1) = some ss := hss ((hz5 hfit).2.2 rfl)
  have hN := hE.2.2.1
  have hr0 := hE.2.2.2.2.1
  have hw0 : ¬ mz_i m2 (46, 0) 0 = 0 := by
    rcases s7 with ⟨p, q⟩ | ⟨p, q⟩ | ⟨p, q⟩
    · exact absurd q hu
    · rw [p]; decide
    · rw [p]; decide
  obtain ⟨tg, pl, htg, hpl, hpn, hcls, href⟩ := path_0 hE ha hu hfr hp h
  refine ⟨fun _ => hcls _ (fun M5 h5 => ⟨16, rfl, by decide, fun z => absurd z (by decide), fun z => absurd z (by decide), fun z => absurd z (by decide), fun z => absurd z (by decide), fun z => absurd z (by decide), fun _ => ?_, fun z => absurd z (by decide), fun z => absurd z (by decide), fun z => absurd z (by decide), fun z => absurd z (by decide), fun n12 n13 n14 n15 n16 n17 n18 n19 n20 n21 => absurd rfl n17⟩), fun z => absurd rfl z⟩
  have e12 : mz_i M5 (8, 0) 12 = tg := h5.1 (8, 0) 12 rfl
  have rf : ∀ (M2 : MzM) (K2 : MzM → Prop), A2 M2 (mz_si (nB m2 0 a) (30, 0) 32 (Int32.ofNat (spc (L2 43 0) + 1))) L2 → (∀ n : Nat, filE m2 n → tg = Int32.ofNat n → mvd m2 n → ∀ cc M4, A2 M4 (mz_si (mz_si (mz_si (mz_si (nB m2 0 a) (30, 0) 32 (Int32.ofNat (spc (L2 43 0) + 1))) (30, 0) 33 tg) (30, 0) 34 pl) (30, 0) 35 cc) L2 → wp_Mo_answer 450 M4 (clrK a K2)) → (∀ n : Nat, filE m2 n → tg = Int32.ofNat n → ¬ mvd m2 n → ∀ cc M4, A2 M4 (mz_si (mz_si (mz_si (mz_si (mz_si (nB m2 0 a) (30, 0) 32 (Int32.ofNat (spc (L2 43 0) + 1))) (30, 0) 33 tg) (30, 0) 34 pl) (30, 0) 35 cc) (32, 0) n 0) L2 → wp_Mo_answer 250 M4 (clrK a K2)) → ((∀ n : Nat, ¬ (filE m2 n ∧ tg = Int32.ofNat n)) → ∀ cc M4, A2 M4 (mz_si (mz_si (mz_si (mz_si (nB m2 0 a) (30, 0) 32 (Int32.ofNat (spc (L2 43 0) + 1))) (30, 0) 33 tg) (30, 0) 34 pl) (30, 0) 35 cc) L2 → wp_Mo_answer 550 M4 (clrK a K2)) → wp_Mo_doLine_255 (clrK a K2) (mz_i m2 (47, 0) 0) (mz_i m2 (48, 0) 0) (mz_i m2 (49, 0) 0) (Int32.ofNat (16 + 1)) (eaI 16) M2 := by
    intro M2 K2 h2 k1 k2 k0
    refine ⟨fun _ => mo_pc (fun _ => ⟨fun z => absurd z (by decide), fun _ => href M2 _ h2 (fun M3 cc h3 _ => ⟨fun z => absurd z (by decide), fun _ => ⟨fun _ => ?_, fun z => absurd (by decide) z⟩⟩)⟩) (fun z => absurd z (by decide)), fun z => absurd z (by decide)⟩
    have e33 : mz_i M3 (30, 0) 33 = tg := h3.1 30 33 rfl
    have go : ∀ ys0 : Int32, wp_Mo_doPath_24 (clrK a K2) (Int32.ofNat (16 + 1)) (mz_i m2 (48, 0) 0) ys0 M3 := by
      intro ys0
      refine mo_freeNode h3 ?_
      refine ⟨fun z => absurd z (by decide), fun z => absurd z (by decide), fun _ => ?_, fun z => absurd z (by decide), fun z => absurd z (by decide), fun z => absurd z (by decide), fun n7 n9 n17 n18 n19 n20 => absurd rfl n17⟩
      unfold wp_Mo_deleteFile
      rw [e33]
      rcases htg with q | ⟨n, hn, hth, etg⟩
      · refine ⟨fun _ => k0 (fun n z => ?_) cc M3 h3, fun z => absurd (by rw [q]; decide) z⟩
        rw [q] at z
        exact nneg z.1.1 z.2
      · have tn : tg.toInt = (n : Int) := by rw [etg]; exact itn (by omega)
        have c33 : mz_i M3 (33, 0) n = mz_i m2 (33, 0) n := h3.1 33 n rfl
        refine ⟨fun z => absurd ((ilt (n := 0) tn rfl).mp z) (by omega), fun _ => ⟨n, tn, hn, ?_⟩⟩
        rw [c33]
        refine ⟨fun z => ?_, fun z => k0 (fun n' w => ?_) cc M3 h3⟩
        · have hf : filE m2 n := ⟨hn, hth, (z01 (hN n hn).2.1).mp z⟩
          refine mo_moved (n := n) (m2 := m2) h3 rfl rfl etg (fun w => ⟨fun z => absurd z (by decide), fun _ => k1 n hf etg w cc M3 h3⟩) (fun w => ⟨fun _ => ⟨n, by rw [e33]; exact tn, hn, ?_⟩, fun z => absurd rfl z⟩)
          rintro _ rfl
          exact k2 n hf etg w cc _ (h3.si (t := 32) (k := n) (v := 0) rfl)
        · have en := ofN_inj (by omega) (by have := w.1.1; omega) (etg.symm.trans w.2)
          rw [← en] at w
          exact absurd (z.symm.trans w.1.2.2) (by decide)
    exact mo_flag (m2 := m2) h3 rfl rfl rfl (fun n hn => (hN n hn).2.1) htg (fun _ => go 1) (fun _ => go 0)
  have uniq : ∀ n n' : Nat, filE m2 n → tg = Int32.ofNat n → filE m2 n' → tg = Int32.ofNat n' → n = n' := fun n n' q1 q2 q3 q4 => ofN_inj (by have := q1.1; omega) (by have := q3.1; omega) (q2.symm.trans q4)
  unfold wp_Ses_removeFile
  rw [e12]
  refine pl_isFile (m2 := m2) (L1 := L1) (L2 := L2) h5 (fun n hn => hN n hn) (fun n hf etg => ⟨fun _ => ⟨n, ?_, hf.1, pl_isBusy (m1 := m1) (m2 := m2) (L1 := L1) (L2 := L2) h5 rfl rfl hE hf.1 (fun hm => ⟨fun z => absurd z (by decide), fun _ => ?_⟩) (fun hm => ⟨fun _ => ⟨n, ?_, hf.1, ?_⟩, fun z => absurd rfl z⟩)⟩, fun z => absurd z (by decide)⟩) (fun hz => ⟨fun z => absurd rfl z, fun _ => ?_⟩)
  · rw [e12, etg]
    exact itn (by have := hf.1; omega)
  · skip
    rintro _ rfl
    have ht := h5.si (o := (8, 0)) (k := 16) (v := 450) rfl
    refine pl_forget (v := 450) false false false ht rfl (fg_s (by decide)) (fg_2 (by decide)) (fg_2 (by decide)) (fun M9 h9 => ?_)
    have hEE : ∀ cc : Int32, EE (fgM (mz_si (mz_si (mz_si (mz_si (mS m1 0 (spc (L1 13 0)) fr vd) (8, 0) 16 0) (8, 0) 12 tg) (8, 0) 13 pl) (8, 0) 16 450) 0 false false false) (lu L1 15 0 ss) ((mz_si (mz_si (mz_si (mz_si (nB m2 0 a) (30, 0) 32 (Int32.ofNat (spc (L2 43 0) + 1))) (30, 0) 33 tg) (30, 0) 34 pl) (30, 0) 35 cc)) L2 := fun cc => ⟨⟨s1, s2, s3, Or.inl ⟨o0, rfl⟩, rfl, s6, s7, Or.inl ⟨rfl, rfl⟩, ⟨rfl, Or.inl rfl⟩, ⟨rfl, 0, by decide, rfl⟩, s11, s12, s13, s14, s15, s16⟩, hE.2.1, hE.2.2⟩
    refine finF_0 (m1 := m1) (m2 := m2) (v := 450) (a := a) (no := fun cc => (mz_si (mz_si (mz_si (mz_si (nB m2 0 a) (30, 0) 32 (Int32.ofNat (spc (L2 43 0) + 1))) (30, 0) 33 tg) (30, 0) 34 pl) (30, 0) 35 cc)) hEE ha (fun _ => ha) (fun _ => rfl) (by decide) (by decide) (by decide) (by decide) (fun _ => ⟨o0, rfl⟩) (fun _ => ⟨fun _ => rfl, rfl, rfl, rfl, rfl, rfl, rfl, rfl, rfl, rfl⟩) rfl h9 (fun M1' hr => hk M1' (fun M2 K2 h2 hk2 => rf M2 K2 h2 (fun n' hf' etg' hm' cc M4 h4 => hr cc M4 K2 h4 hk2) (fun n' hf' etg' hm' => absurd (by rw [← uniq n n' hf etg hf' etg']; exact hm) hm') (fun w => absurd ⟨hf, etg⟩ (w n))))
  · rw [e12, etg]
    exact itn (by have := hf.1; omega)
  · rintro _ rfl
    have h6 := h5.si (o := (3, n)) (k := 1) (v := 0) rfl
    have hE1 := ee_rm hE (fil_0 hE hf) hf.1 (fil_leaf hE hf) (fun x hx => at_dir hE hx hf) (fun x hx => not_mvd_file hE hf.1 hx hm)
    obtain ⟨s1, s2, s3, s4, s5, s6, s7, s8, s9, s10, s11, s12, s13, s14, s15, s16⟩ := hE1.1
    rintro _ rfl
    have ht := h6.si (o := (8, 0)) (k := 16) (v := 250) rfl
    refine pl_forget (v := 250) false false false ht rfl (fg_s (by decide)) (fg_2 (by decide)) (fg_2 (by decide)) (fun M9 h9 => ?_)
    have hEE : ∀ cc : Int32, EE (fgM (mz_si (mz_si (mz_si (mz_si (mz_si (mS m1 0 (spc (L1 13 0)) fr vd) (8, 0) 16 0) (8, 0) 12 tg) (8, 0) 13 pl) (3, n) 1 0) (8, 0) 16 250) 0 false false false) (lu L1 15 0 ss) (mz_si (mz_si (mz_si (mz_si (mz_si (nB m2 0 a) (30, 0) 32 (Int32.ofNat (spc (L2 43 0) + 1))) (30, 0) 33 tg) (30, 0) 34 pl) (30, 0) 35 cc) (32, 0) n 0) L2 := fun cc => ⟨⟨s1, s2, s3, Or.inl ⟨o0, rfl⟩, rfl, s6, s7, Or.inl ⟨rfl, rfl⟩, ⟨rfl, Or.inl rfl⟩, ⟨rfl, 0, by decide, rfl⟩, s11, s12, s13, s14, s15, s16⟩, hE1.2⟩
    refine finF_0 (m1 := m1) (m2 := m2) (v := 250) (a := a) (no := fun cc => mz_si (mz_si (mz_si (mz_si (mz_si (nB m2 0 a) (30, 0) 32 (Int32.ofNat (spc (L2 43 0) + 1))) (30, 0) 33 tg) (30, 0) 34 pl) (30, 0) 35 cc) (32, 0) n 0) hEE ha (fun _ => ha) (fun _ => rfl) (by decide) (by decide) (by decide) (by decide) (fun _ => ⟨o0, rfl⟩) (fun _ => ⟨fun _ => rfl, rfl, rfl, rfl, rfl, rfl, rfl, rfl, rfl, rfl⟩) rfl h9 (fun M1' hr => hk M1' (fun M2 K2 h2 hk2 => rf M2 K2 h2 (fun n' hf' etg' hm' => absurd (by rw [uniq n n' hf etg hf' etg']; exact hm') hm) (fun n' hf' etg' hm' cc M4 h4 => ?_) (fun w => absurd ⟨hf, etg⟩ (w n))))
    have en := uniq n n' hf etg hf' etg'
    subst en
    exact hr cc M4 K2 h4 hk2
  · skip
    rintro _ rfl
    have ht := h5.si (o := (8, 0)) (k := 16) (v := 550) rfl
    refine pl_forget (v := 550) false false false ht rfl (fg_s (by decide)) (fg_2 (by decide)) (fg_2 (by decide)) (fun M9 h9 => ?_)
    have hEE : ∀ cc : Int32, EE (fgM (mz_si (mz_si (mz_si (mz_si (mS m1 0 (spc (L1 13 0)) fr vd) (8, 0) 16 0) (8, 0) 12 tg) (8, 0) 13 pl) (8, 0) 16 550) 0 false false false) (lu L1 15 0 ss) ((mz_si (mz_si (mz_si (mz_si (nB m2 0 a) (30, 0) 32 (Int32.ofNat (spc (L2 43 0) + 1))) (30, 0) 33 tg) (30, 0) 34 pl) (30, 0) 35 cc)) L2 := fun cc => ⟨⟨s1, s2, s3, Or.inl ⟨o0, rfl⟩, rfl, s6, s7, Or.inl ⟨rfl, rfl⟩, ⟨rfl, Or.inl rfl⟩, ⟨rfl, 0, by decide, rfl⟩, s11, s12, s13, s14, s15, s16⟩, hE.2.1, hE.2.2⟩
    refine finF_0 (m1 := m1) (m2 := m2) (v := 550) (a := a) (no := fun cc => (mz_si (mz_si (mz_si (mz_si (nB m2 0 a) (30, 0) 32 (Int32.ofNat (spc (L2 43 0) + 1))) (30, 0) 33 tg) (30, 0) 34 pl) (30, 0) 35 cc)) hEE ha (fun _ => ha) (fun _ => rfl) (by decide) (by decide) (by decide) (by decide) (fun _ => ⟨o0, rfl⟩) (fun _ => ⟨fun _ => rfl, rfl, rfl, rfl, rfl, rfl, rfl, rfl, rfl, rfl⟩) rfl h9 (fun M1' hr => hk M1' (fun M2 K2 h2 hk2 => rf M2 K2 h2 (fun n hf etg => absurd ⟨hf, etg⟩ (hz n)) (fun n hf etg => absurd ⟨hf, etg⟩ (hz n)) (fun _ cc M4 h4 => hr cc M4 K2 h4 hk2)))
theorem ob_1_16 : obPred 1 16 := by
  intro m1 m2 M L1 L2 fr vd a ss K hE o0 ha hfit hW hD hA hfr hss h hk
  obtain ⟨s1, s2, s3, s4, s5, s6, s7, s8, s9, s10, s11, s12, s13, s14, s15, s16⟩ := hE.2.1
  have hcl := spc_le (L1 13 1)
  have h30 : (L1 13 1).length ≤ 30 := (h.line 1).2.1
  have sl : spc (L2 43 1) = spc (L1 13 1) := by rw [s3]
  have hu : ¬ mz_i m1 (8, 1) 7 = 0 := hW.elim (fun z => absurd z (by decide)) id
  have hp : pth (L1 13 1) (spc (L1 13 1) + 1) = some ss := hss ((hz5 hfit).2.2 rfl)
  have hN := hE.2.2.1
  have hr0 := hE.2.2.2.2.1
  have hw0 : ¬ mz_i m2 (46, 0) 1 = 0 := by
    rcases s7 with ⟨p, q⟩ | ⟨p, q⟩ | ⟨p, q⟩
    · exact absurd q hu
    · rw [p]; decide
    · rw [p]; decide
  obtain ⟨tg, pl, htg, hpl, hpn, hcls, href⟩ := path_1 hE ha hu hfr hp h
  refine ⟨fun _ => hcls _ (fun M5 h5 => ⟨16, rfl, by decide, fun z => absurd z (by decide), fun z => absurd z (by decide), fun z => absurd z (by decide), fun z => absurd z (by decide), fun z => absurd z (by decide), fun _ => ?_, fun z => absurd z (by decide), fun z => absurd z (by decide), fun z => absurd z (by decide), fun z => absurd z (by decide), fun n12 n13 n14 n15 n16 n17 n18 n19 n20 n21 => absurd rfl n17⟩), fun z => absurd rfl z⟩
  have e12 : mz_i M5 (8, 1) 12 = tg := h5.1 (8, 1) 12 rfl
  have rf : ∀ (M2 : MzM) (K2 : MzM → Prop), A2 M2 (mz_si (nB m2 1 a) (30, 0) 32 (Int32.ofNat (spc (L2 43 1) + 1))) L2 → (∀ n : Nat, filE m2 n → tg = Int32.ofNat n → mvd m2 n → ∀ cc M4, A2 M4 (mz_si (mz_si (mz_si (mz_si (nB m2 1 a) (30, 0) 32 (Int32.ofNat (spc (L2 43 1) + 1))) (30, 0) 33 tg) (30, 0) 34 pl) (30, 0) 35 cc) L2 → wp_Mo_answer 450 M4 (clrK a K2)) → (∀ n : Nat, filE m2 n → tg = Int32.ofNat n → ¬ mvd m2 n → ∀ cc M4, A2 M4 (mz_si (mz_si (mz_si (mz_si (mz_si (nB m2 1 a) (30, 0) 32 (Int32.ofNat (spc (L2 43 1) + 1))) (30, 0) 33 tg) (30, 0) 34 pl) (30, 0) 35 cc) (32, 0) n 0) L2 → wp_Mo_answer 250 M4 (clrK a K2)) → ((∀ n : Nat, ¬ (filE m2 n ∧ tg = Int32.ofNat n)) → ∀ cc M4, A2 M4 (mz_si (mz_si (mz_si (mz_si (nB m2 1 a) (30, 0) 32 (Int32.ofNat (spc (L2 43 1) + 1))) (30, 0) 33 tg) (30, 0) 34 pl) (30, 0) 35 cc) L2 → wp_Mo_answer 550 M4 (clrK a K2)) → wp_Mo_doLine_255 (clrK a K2) (mz_i m2 (47, 0) 1) (mz_i m2 (48, 0) 1) (mz_i m2 (49, 0) 1) (Int32.ofNat (16 + 1)) (eaI 16) M2 := by
    intro M2 K2 h2 k1 k2 k0
    refine ⟨fun _ => mo_pc (fun _ => ⟨fun z => absurd z (by decide), fun _ => href M2 _ h2 (fun M3 cc h3 _ => ⟨fun z => absurd z (by decide), fun _ => ⟨fun _ => ?_, fun z => absurd (by decide) z⟩⟩)⟩) (fun z => absurd z (by decide)), fun z => absurd z (by decide)⟩
    have e33 : mz_i M3 (30, 0) 33 = tg := h3.1 30 33 rfl
    have go : ∀ ys0 : Int32, wp_Mo_doPath_24 (clrK a K2) (Int32.ofNat (16 + 1)) (mz_i m2 (48, 0) 1) ys0 M3 := by
      intro ys0
      refine mo_freeNode h3 ?_
      refine ⟨fun z => absurd z (by decide), fun z => absurd z (by decide), fun _ => ?_, fun z => absurd z (by decide), fun z => absurd z (by decide), fun z => absurd z (by decide), fun n7 n9 n17 n18 n19 n20 => absurd rfl n17⟩
      unfold wp_Mo_deleteFile
      rw [e33]
      rcases htg with q | ⟨n, hn, hth, etg⟩
      · refine ⟨fun _ => k0 (fun n z => ?_) cc M3 h3, fun z => absurd (by rw [q]; decide) z⟩
        rw [q] at z
        exact nneg z.1.1 z.2
      · have tn : tg.toInt = (n : Int) := by rw [etg]; exact itn (by omega)
        have c33 : mz_i M3 (33, 0) n = mz_i m2 (33, 0) n := h3.1 33 n rfl
        refine ⟨fun z => absurd ((ilt (n := 0) tn rfl).mp z) (by omega), fun _ => ⟨n, tn, hn, ?_⟩⟩
        rw [c33]
        refine ⟨fun z => ?_, fun z => k0 (fun n' w => ?_) cc M3 h3⟩
        · have hf : filE m2 n := ⟨hn, hth, (z01 (hN n hn).2.1).mp z⟩
          refine mo_moved (n := n) (m2 := m2) h3 rfl rfl etg (fun w => ⟨fun z => absurd z (by decide), fun _ => k1 n hf etg w cc M3 h3⟩) (fun w => ⟨fun _ => ⟨n, by rw [e33]; exact tn, hn, ?_⟩, fun z => absurd rfl z⟩)
          rintro _ rfl
          exact k2 n hf etg w cc _ (h3.si (t := 32) (k := n) (v := 0) rfl)
        · have en := ofN_inj (by omega) (by have := w.1.1; omega) (etg.symm.trans w.2)
          rw [← en] at w
          exact absurd (z.symm.trans w.1.2.2) (by decide)
    exact mo_flag (m2 := m2) h3 rfl rfl rfl (fun n hn => (hN n hn).2.1) htg (fun _ => go 1) (fun _ => go 0)
  have uniq : ∀ n n' : Nat, filE m2 n → tg = Int32.ofNat n → filE m2 n' → tg = Int32.ofNat n' → n = n' := fun n n' q1 q2 q3 q4 => ofN_inj (by have := q1.1; omega) (by have := q3.1; omega) (q2.symm.trans q4)
  unfold wp_Ses_removeFile
  rw [e12]
  refine pl_isFile (m2 := m2) (L1 := L1) (L2 := L2) h5 (fun n hn => hN n hn) (fun n hf etg => ⟨fun _ => ⟨n, ?_, hf.1, pl_isBusy (m1 := m1) (m2 := m2) (L1 := L1) (L2 := L2) h5 rfl rfl hE hf.1 (fun hm => ⟨fun z => absurd z (by decide), fun _ => ?_⟩) (fun hm => ⟨fun _ => ⟨n, ?_, hf.1, ?_⟩, fun z => absurd rfl z⟩)⟩, fun z => absurd z (by decide)⟩) (fun hz => ⟨fun z => absurd rfl z, fun _ => ?_⟩)
  · rw [e12, etg]
    exact itn (by have := hf.1; omega)
  · skip
    rintro _ rfl
    have ht := h5.si (o := (8, 1)) (k := 16) (v := 450) rfl
    refine pl_forget (v := 450) false false false ht rfl (fg_s (by decide)) (fg_2 (by decide)) (fg_2 (by decide)) (fun M9 h9 => ?_)
    have hEE : ∀ cc : Int32, EE (fgM (mz_si (mz_si (mz_si (mz_si (mS m1 1 (spc (L1 13 1)) fr vd) (8, 1) 16 0) (8, 1) 12 tg) (8, 1) 13 pl) (8, 1) 16 450) 1 false false false) (lu L1 15 1 ss) ((mz_si (mz_si (mz_si (mz_si (nB m2 1 a) (30, 0) 32 (Int32.ofNat (spc (L2 43 1) + 1))) (30, 0) 33 tg) (30, 0) 34 pl) (30, 0) 35 cc)) L2 := fun cc => ⟨hE.1, ⟨s1, s2, s3, Or.inl ⟨o0, rfl⟩, rfl, s6, s7, Or.inl ⟨rfl, rfl⟩, ⟨rfl, Or.inl rfl⟩, ⟨rfl, 0, by decide, rfl⟩, s11, s12, s13, s14, s15, s16⟩, hE.2.2⟩
    refine finF_1 (m1 := m1) (m2 := m2) (v := 450) (a := a) (no := fun cc => (mz_si (mz_si (mz_si (mz_si (nB m2 1 a) (30, 0) 32 (Int32.ofNat (spc (L2 43 1) + 1))) (30, 0) 33 tg) (30, 0) 34 pl) (30, 0) 35 cc)) hEE ha (fun _ => ha) (fun _ => rfl) (by decide) (by decide) (by decide) (by decide) (fun _ => ⟨o0, rfl⟩) (fun _ => ⟨fun _ => rfl, rfl, rfl, rfl, rfl, rfl, rfl, rfl, rfl, rfl⟩) rfl h9 (fun M1' hr => hk M1' (fun M2 K2 h2 hk2 => rf M2 K2 h2 (fun n' hf' etg' hm' cc M4 h4 => hr cc M4 K2 h4 hk2) (fun n' hf' etg' hm' => absurd (by rw [← uniq n n' hf etg hf' etg']; exact hm) hm') (fun w => absurd ⟨hf, etg⟩ (w n))))
  · rw [e12, etg]
    exact itn (by have := hf.1; omega)
  · rintro _ rfl
    have h6 := h5.si (o := (3, n)) (k := 1) (v := 0) rfl
    have hE1 := ee_rm hE (fil_0 hE hf) hf.1 (fil_leaf hE hf) (fun x hx => at_dir hE hx hf) (fun x hx => not_mvd_file hE hf.1 hx hm)
    obtain ⟨s1, s2, s3, s4, s5, s6, s7, s8, s9, s10, s11, s12, s13, s14, s15, s16⟩ := hE1.2.1
    rintro _ rfl
    have ht := h6.si (o := (8, 1)) (k := 16) (v := 250) rfl
    refine pl_forget (v := 250) false false false ht rfl (fg_s (by decide)) (fg_2 (by decide)) (fg_2 (by decide)) (fun M9 h9 => ?_)
    have hEE : ∀ cc : Int32, EE (fgM (mz_si (mz_si (mz_si (mz_si (mz_si (mS m1 1 (spc (L1 13 1)) fr vd) (8, 1) 16 0) (8, 1) 12 tg) (8, 1) 13 pl) (3, n) 1 0) (8, 1) 16 250) 1 false false false) (lu L1 15 1 ss) (mz_si (mz_si (mz_si (mz_si (mz_si (nB m2 1 a) (30, 0) 32 (Int32.ofNat (spc (L2 43 1) + 1))) (30, 0) 33 tg) (30, 0) 34 pl) (30, 0) 35 cc) (32, 0) n 0) L2 := fun cc => ⟨hE1.1, ⟨s1, s2, s3, Or.inl ⟨o0, rfl⟩, rfl, s6, s7, Or.inl ⟨rfl, rfl⟩, ⟨rfl, Or.inl rfl⟩, ⟨rfl, 0, by decide, rfl⟩, s11, s12, s13, s14, s15, s16⟩, hE1.2.2⟩
    refine finF_1 (m1 := m1) (m2 := m2) (v := 250) (a := a) (no := fun cc => mz_si (mz_si (mz_si (mz_si (mz_si (nB m2 1 a) (30, 0) 32 (Int32.ofNat (spc (L2 43 1) + 1))) (30, 0) 33 tg) (30, 0) 34 pl) (30, 0) 35 cc) (32, 0) n 0) hEE ha (fun _ => ha) (fun _ => rfl) (by decide) (by decide) (by decide) (by decide) (fun _ => ⟨o0, rfl⟩) (fun _ => ⟨fun _ => rfl, rfl, rfl, rfl, rfl, rfl, rfl, rfl, rfl, rfl⟩) rfl h9 (fun M1' hr => hk M1' (fun M2 K2 h2 hk2 => rf M2 K2 h2 (fun n' hf' etg' hm' => absurd (by rw [uniq n n' hf etg hf' etg']; exact hm') hm) (fun n' hf' etg' hm' cc M4 h4 => ?_) (fun w => absurd ⟨hf, etg⟩ (w n))))
    have en := uniq n n' hf etg hf' etg'
    subst en
    exact hr cc M4 K2 h4 hk2
  · skip
    rintro _ rfl
    have ht := h5.si (o := (8, 1)) (k := 16) (v := 550) rfl
    refine pl_forget (v := 550) false false false ht rfl (fg_s (by decide)) (fg_2 (by decide)) (fg_2 (by decide)) (fun M9 h9 => ?_)
    have hEE : ∀ cc : Int32, EE (fgM (mz_si (mz_si (mz_si (mz_si (mS m1 1 (spc (L1 13 1)) fr vd) (8, 1) 16 0) (8, 1) 12 tg) (8, 1) 13 pl) (8, 1) 16 550) 1 false false false) (lu L1 15 1 ss) ((mz_si (mz_si (mz_si (mz_si (nB m2 1 a) (30, 0) 32 (Int32.ofNat (spc (L2 43 1) + 1))) (30, 0) 33 tg) (30, 0) 34 pl) (30, 0) 35 cc)) L2 := fun cc => ⟨hE.1, ⟨s1, s2, s3, Or.inl ⟨o0, rfl⟩, rfl, s6, s7, Or.inl ⟨rfl, rfl⟩, ⟨rfl, Or.inl rfl⟩, ⟨rfl, 0, by decide, rfl⟩, s11, s12, s13, s14, s15, s16⟩, hE.2.2⟩
    refine finF_1 (m1 := m1) (m2 := m2) (v := 550) (a := a) (no := fun cc => (mz_si (mz_si (mz_si (mz_si (nB m2 1 a) (30, 0) 32 (Int32.ofNat (spc (L2 43 1) + 1))) (30, 0) 33 tg) (30, 0) 34 pl) (30, 0) 35 cc)) hEE ha (fun _ => ha) (fun _ => rfl) (by decide) (by decide) (by decide) (by decide) (fun _ => ⟨o0, rfl⟩) (fun _ => ⟨fun _ => rfl, rfl, rfl, rfl, rfl, rfl, rfl, rfl, rfl, rfl⟩) rfl h9 (fun M1' hr => hk M1' (fun M2 K2 h2 hk2 => rf M2 K2 h2 (fun n hf etg => absurd ⟨hf, etg⟩ (hz n)) (fun n hf etg => absurd ⟨hf, etg⟩ (hz n)) (fun _ cc M4 h4 => hr cc M4 K2 h4 hk2)))
