/-! a byte is moved -/
def mvK (K : Int32 → MzM → Prop) (v4 : Int32) (M1 : MzM) : Prop := (∃ j5 : Nat, (mz_i M1 (30, 0) 40).toInt = (j5 : Int) ∧ j5 < 3 ∧ (((24 : Int32) ≤ (mz_i M1 (59, 0) j5) → K (2 : Int32) M1) ∧ (¬ (24 : Int32) ≤ (mz_i M1 (59, 0) j5) → (∃ j9 : Nat, (mz_i M1 (30, 0) 40).toInt = (j9 : Int) ∧ j9 < 3 ∧ (∃ j16 : Nat, (((24 : Int32) * (mz_i M1 (30, 0) 40)) + (mz_i M1 (59, 0) j9)).toInt = (j16 : Int) ∧ j16 < 72 ∧ ∀ M13 : MzM, M13 = mz_si M1 (60, 0) j16 v4 → (∃ j19 : Nat, (mz_i M13 (30, 0) 40).toInt = (j19 : Int) ∧ j19 < 3 ∧ (∃ j26 : Nat, (mz_i M13 (30, 0) 40).toInt = (j26 : Int) ∧ j26 < 3 ∧ ∀ M23 : MzM, M23 = mz_si M13 (59, 0) j26 ((mz_i M13 (59, 0) j19) + (1 : Int32)) → K (2 : Int32) M23)))))))
theorem mo_adds {k : Nat} {v : Int32} {M m : MzM} {L : MzV} {K : Int32 → MzM → Prop} (h : A2 M m L) (e40 : mz_i m (30, 0) 40 = Int32.ofNat k) (hk3 : k < 3) (hk : ∀ M', A2 M' m (lu L 60 k (row24 (L 60 k) v)) → K 2 M') : mvK K v M := by
  obtain ⟨e1, e2, e3⟩ := h.2 60 59 24 3 k rfl hk3
  have g40 : mz_i M (30, 0) 40 = Int32.ofNat k := (h.1 30 40 rfl).trans e40
  have t40 : (mz_i M (30, 0) 40).toInt = (k : Int) := by rw [g40]; exact itn (by omega)
  have e4 : (mz_i M (59, 0) k).toInt = ((L 60 k).length : Int) := by rw [e1]; exact itn (by omega)
  have e5 : ((24 : Int32) * mz_i M (30, 0) 40).toInt = 24 * (k : Int) := imul (m := 24) rfl t40 (by omega) (by omega)
  refine ⟨k, t40, hk3, fun h9 => ?_, fun h9 => ?_⟩
  · have q := (ile (m := 24) rfl e4).mp h9
    have er : row24 (L 60 k) v = L 60 k := by unfold row24; rw [if_neg (by omega)]
    rw [er, lu_id] at hk
    exact hk M h
  · have q : ¬ (24 : Int) ≤ ((L 60 k).length : Int) := fun q => h9 ((ile (m := 24) rfl e4).mpr q)
    have hl : (L 60 k).length < 24 := by omega
    have er : row24 (L 60 k) v = L 60 k ++ [v] := by unfold row24; rw [if_pos hl]
    rw [er] at hk
    have e6 : (((24 : Int32) * mz_i M (30, 0) 40) + (mz_i M (59, 0) k)).toInt = ((24 * k + (L 60 k).length : Nat) : Int) := by rw [iadd e5 e4 (by omega) (by omega)]; omega
    refine ⟨k, t40, hk3, 24 * k + (L 60 k).length, e6, by omega, ?_⟩
    rintro _ rfl
    refine ⟨k, t40, hk3, k, t40, hk3, ?_⟩
    rintro _ rfl
    exact hk _ (A2.push (t := 60) (w := mz_i (mz_si M (60, 0) (24 * k + (L 60 k).length) v) (59, 0) k + 1) h rfl hk3 hl (i32_succ e1))
theorem ph_fb {t : Bool} {M1 G : MzM} {K : Int32 → MzM → Prop} (h : SS t 0 2 M1 G) (hk : ∀ v M1', (∀ K2 : Int32 → MzM → Prop, (∀ M2', PostS M1' M2' → K2 v M2') → wp_Mo_moveByte G (stK K2)) → K v M1') : wp_Cop_fetchByte M1 K := by
  have h0 := h
  obtain ⟨k, hk3, er, e40, _, _, e39, n, hn, e20, e59⟩ := h.cop
  obtain ⟨m1, L1, m2, L2, h1, h2, hE, hc, hz⟩ := h
  have s14 := hE.2.1.2.2.2.2.2.2.2.2.2.2.2.2.2.1
  have e53 : mz_i M1 (16, 1) 1 = mz_i m2 (53, 0) 1 := (h1.1 (16, 1) 1 rfl).trans s14
  have g53 : mz_i G (53, 0) 1 = mz_i m2 (53, 0) 1 := h2.1 53 1 rfl
  have e8 : mz_i m1 (22, 0) 8 = mz_i m2 (30, 0) 44 := (hE.2.2.2.2.2.2.1.2 hc.1).2.2.2.2.2 hc.2.2.1 hc.2.1
  have E8 : mz_i M1 (22, 0) 8 = mz_i m2 (30, 0) 44 := (h1.1 (22, 0) 8 rfl).trans e8
  have E44 : mz_i G (30, 0) 44 = mz_i m2 (30, 0) 44 := h2.1 30 44 rfl
  have t40 : (mz_i G (30, 0) 40).toInt = (k : Int) := by rw [e40]; exact itn (by omega)
  refine ⟨fun y => ?_, fun y => ?_⟩
  · rw [e53] at y
    refine ⟨fun z => absurd z (some20n er), fun n' _ z => ?_, Or.inr ⟨k, hk3, er⟩⟩
    have e := some20 er z
    subst e
    rw [e20, E8]
    refine ⟨fun y2 => ?_, fun y2 => ?_⟩
    · rintro _ rfl
      refine hk _ _ (fun K2 q => ⟨fun _ => ⟨fun w => absurd (g53.symm.trans w) y, fun _ => ⟨n', t40, hk3, ?_⟩⟩, fun w => absurd e39 w⟩)
      rw [e59, E44]
      exact ⟨fun _ => stK_fin (by decide) (q _ (ss_fin h0)), fun w => absurd w y2⟩
    · rintro _ rfl
      refine hk _ _ (fun K2 q => ⟨fun _ => ⟨fun w => absurd (g53.symm.trans w) y, fun _ => ⟨n', t40, hk3, ?_⟩⟩, fun w => absurd e39 w⟩)
      rw [e59, E44]
      exact ⟨fun w => absurd y2 w, fun _ => stK_fin (by decide) (q _ (ss_fin h0))⟩
  · rw [e53] at y
    refine ⟨fun z => absurd z (some20n er), fun n' _ z => ?_, Or.inr ⟨k, hk3, er⟩⟩
    have e := some20 er z
    subst e
    refine take_1 (a := 1) hE rfl h1 y (fun v M1' hr => ?_)
    obtain ⟨⟨v', M2'⟩, ⟨ev, hO⟩, hgo⟩ := det_takeOne (fun p => p.1 = v ∧ OO m1 m2 M1' p.2) (hr G (fun v' M2' => v' = v ∧ OO m1 m2 M1' M2') h2 (fun M2' hO => ⟨rfl, hO⟩))
    have ev' : v' = v := ev
    subst ev'
    obtain ⟨n1, l1, n2, l2, g1, g2, gE, gc⟩ := hO
    refine pl_adds (n := n') g1 (fun M1'' g1' => ?_)
    rintro _ rfl
    refine hk _ _ (fun K2 q => ⟨fun _ => ⟨fun _ => hgo (fun p => mvK (stK K2) p.1 p.2) ?_, fun w => absurd (g53.trans y) w⟩, fun w => absurd e39 w⟩)
    have f40 : mz_i n2 (30, 0) 40 = Int32.ofNat n' := gc.2.2.2.2.1.trans ((h2.1 30 40 rfl).symm.trans e40)
    refine mo_adds (k := n') g2 f40 hk3 (fun M2'' g2' => stK_go (by decide) (q _ (ss_go (t := true) (b := 0) (v := 2) ?_ (by decide) (Or.inr (Or.inl rfl)) (fun _ _ => rfl))))
    refine ⟨n1, _, n2, _, g1', g2', ⟨gE.1, gE.2.1, gE.2.2.1, gE.2.2.2.1, gE.2.2.2.2.1, gE.2.2.2.2.2.1, gE.2.2.2.2.2.2.1, gE.2.2.2.2.2.2.2.1, fun i hi => ?_⟩, hc.mv gc, fun _ => ((gc.1 8).trans e8).trans gc.2.2.2.2.2.2.2.2.1.symm⟩
    have hsh := gE.2.2.2.2.2.2.2.2
    by_cases hik : i = n'
    · subst hik
      rw [lu_same, lu_same, hsh i hi]
    · rw [lu_ne _ _ (fun z => hik z.2), lu_ne _ _ (fun z => hik z.2)]
      exact hsh i hi
theorem ph_bb {t : Bool} {b : Int32} {M1 G : MzM} {K : Int32 → MzM → Prop} (h : SS t b 2 M1 G) (hb0 : ¬ b = 0) (hk : ∀ v M1', (∀ K2 : Int32 → MzM → Prop, (∀ M2', PostS M1' M2' → K2 v M2') → wp_Mo_moveByte G (stK K2)) → K v M1') : wp_Cop_bringByte M1 K := by
  have h0 := h
  obtain ⟨k, hk3, er, e40, _, _, e39, c, hcn, e20, e59⟩ := h.cop
  obtain ⟨m1, L1, m2, L2, h1, h2, hE, hc, hz⟩ := h
  have f39 : ¬ mz_i G (30, 0) 39 = 0 := by rw [e39]; exact hb0
  have s14 := hE.2.1.2.2.2.2.2.2.2.2.2.2.2.2.2.1
  have s16 := hE.2.1.2.2.2.2.2.2.2.2.2.2.2.2.2.2.2
  have e53 : mz_i M1 (16, 1) 1 = mz_i m2 (53, 0) 1 := (h1.1 (16, 1) 1 rfl).trans s14
  have g53 : mz_i G (53, 0) 1 = mz_i m2 (53, 0) 1 := h2.1 53 1 rfl
  have t40 : (mz_i G (30, 0) 40).toInt = (k : Int) := by rw [e40]; exact itn (by omega)
  -- what the moving leaves
  have nx : ∀ (M1' M2' : MzM), OO m1 m2 M1' M2' → SS false b 2 M1' M2' := by
    rintro M1' M2' ⟨n1, l1, n2, l2, g1, g2, gE, gc⟩
    exact ⟨n1, l1, n2, l2, g1, g2, gE, hc.mv gc, fun z => absurd z (by decide)⟩
  refine ⟨fun y => ?_, fun y => ?_⟩
  · rw [e53] at y
    rintro _ rfl
    exact hk _ _ (fun K2 q => ⟨fun w => absurd w f39, fun _ => ⟨fun w => absurd (g53.symm.trans w) y, fun _ => stK_fin (by decide) (q _ (ss_fin h0))⟩⟩)
  · rw [e53] at y
    obtain ⟨n, hf, r4, e54⟩ : ∃ n : Nat, filE m2 n ∧ mz_r m1 (16, 1) 4 = some (3, n) ∧ mz_i m2 (54, 0) 1 = Int32.ofNat n := by
      rcases s16 with ⟨z, _⟩ | ⟨z, _⟩ | ⟨_, _, _, _, _, z⟩
      · exact absurd (y.symm.trans z) (by decide)
      · exact absurd (y.symm.trans z) (by decide)
      · exact z
    have hn := hf.1
    have r4' : mz_r M1 (16, 1) 4 = some (3, n) := (h1.2.1 _ _).trans r4
    have o4 : mz_r M1 (16, 1) 4 = none ∨ ∃ n1 : Nat, n1 < 16 ∧ mz_r M1 (16, 1) 4 = some (3, n1) := Or.inr ⟨n, hn, r4'⟩
    have t54 : (mz_i G (54, 0) 1).toInt = (n : Int) := by rw [h2.1 54 1 rfl, e54]; exact itn (by omega)
    obtain ⟨d1, d2, _⟩ := h1.2.2.1 5 4 1 24 n rfl
    obtain ⟨f1, f2, _⟩ := h2.2 38 36 24 16 n rfl hn
    have hl : L1 5 n = L2 38 n := ((hE.2.2.1 n hn).2.2.2.2.2 hf).1
    rw [← hl] at f1
    have tp : (Int32.ofNat (L1 5 n).length).toInt = ((L1 5 n).length : Int) := itn (by omega)
    have tc : (Int32.ofNat c).toInt = (c : Int) := itn (by omega)
    refine ⟨fun z => absurd z (some3n r4'), fun n5 _ _ => ⟨fun z => absurd z (some3n r4'), fun n12 _ z12 => ⟨fun z => absurd z (some20n er), fun n15 _ z15 => ?_, Or.inr ⟨k, hk3, er⟩⟩, o4⟩, o4⟩
    have e12 := some3 r4' z12
    subst e12
    have e15 := some20 er z15
    subst e15
    rw [e20, d1]
    refine ⟨fun y2 => ?_, fun y2 => ⟨fun z => absurd z (some20n er), fun n25 _ z25 => ?_, Or.inr ⟨n15, hk3, er⟩⟩⟩
    · refine close_1 (a := 1) hE rfl h1 (fun M1' hr => ?_)
      rintro _ rfl
      refine hk _ _ (fun K2 q => ⟨fun w => absurd w f39, fun _ => ⟨fun _ => ⟨n12, t54, hn, n15, t40, hk3, ?_⟩, fun w => absurd (g53.trans y) w⟩⟩)
      rw [e59, f1]
      exact ⟨fun _ => hr G _ h2 (fun M2' hO => stK_go (by decide) (q _ (ss_go (nx M1' M2' hO) (by decide) (Or.inr (Or.inr rfl)) (fun z => absurd z (by decide))))), fun w => absurd y2 w⟩
    · have e25 := some20 er z25
      subst e25
      have hlt : (L1 5 n12).length < c := by
        have : ¬ (c : Int) ≤ ((L1 5 n12).length : Int) := fun w => y2 ((ile tc tp).mpr w)
        omega
      obtain ⟨s1, s2, s3⟩ := h1.2.2.1 21 20 1 24 n25 rfl
      obtain ⟨u1, u2, u3⟩ := h2.2 60 59 24 3 n25 rfl hk3
      have hsh := hE.2.2.2.2.2.2.2.2 n25 hk3
      have hc21 : (L1 21 n25).length = c := ofN_inj (by omega) (by omega) (s1.symm.trans e20)
      have v1 := s3 (L1 5 n12).length (by omega)
      have v2 := u3 (L1 5 n12).length (by rw [← hsh]; omega)
      rw [hsh, v2] at v1
      have ev : mz_i G (60, 0) (24 * n25 + (L1 5 n12).length) = mz_i M1 (21, n25) (L1 5 n12).length := Option.some.inj v1
      refine ⟨fun z => absurd ((ilt (n := 0) tp rfl).mp z) (by omega), fun _ => ⟨fun z => absurd (by rw [e20] at z; exact z) y2, fun _ => ⟨fun z => absurd ((ile (m := 24) rfl tp).mp z) (by omega), fun _ => ⟨(L1 5 n12).length, tp, by omega, ?_⟩⟩⟩⟩
      refine bring_1 (a := 1) hE rfl h1 y (fun M1' hr => ?_)
      rintro _ rfl
      have e5 : ((24 : Int32) * mz_i G (30, 0) 40).toInt = 24 * (n25 : Int) := imul (m := 24) rfl t40 (by omega) (by omega)
      have e6 : (((24 : Int32) * mz_i G (30, 0) 40) + Int32.ofNat (L1 5 n12).length).toInt = ((24 * n25 + (L1 5 n12).length : Nat) : Int) := by rw [iadd e5 tp (by omega) (by omega)]; omega
      refine hk _ _ (fun K2 q => ⟨fun w => absurd w f39, fun _ => ⟨fun _ => ⟨n12, t54, hn, n25, t40, hk3, ?_⟩, fun w => absurd (g53.trans y) w⟩⟩)
      rw [e59, f1]
      refine ⟨fun w => absurd w y2, fun _ => ⟨24 * n25 + (L1 5 n12).length, e6, by omega, ?_⟩⟩
      rw [ev]
      exact hr G _ h2 (fun M2' hO => stK_go (by decide) (q _ (ss_go (nx M1' M2' hO) (by decide) (Or.inr (Or.inl rfl)) (fun _ z => absurd z hb0))))
/-! the step -/
theorem st_ref {M2 m2 : MzM} {L2 : MzV} {v : Int32} {K2 : Int32 → MzM → Prop} (h2 : A2 M2 m2 L2) (z1 : mz_i m2 (30, 0) 38 = 1) (e43 : mz_i m2 (30, 0) 43 = v) (q0 : v = 0 → wp_Mo_login (mz_si (mz_si M2 (30, 0) 1 0) (44, 0) 1 0) (stK K2)) (q1 : v = 1 → wp_Mo_askFor (mz_si (mz_si M2 (30, 0) 1 0) (44, 0) 1 0) (stK K2)) (q2 : v = 2 → wp_Mo_moveByte (mz_si (mz_si M2 (30, 0) 1 0) (44, 0) 1 0) (stK K2)) (q3 : v = 3 → wp_Mo_putName (mz_si (mz_si M2 (30, 0) 1 0) (44, 0) 1 0) (stK K2)) (q5 : ¬ v = 0 → ¬ v = 1 → ¬ v = 2 → ¬ v = 3 → stK K2 5 (mz_si (mz_si M2 (30, 0) 1 0) (44, 0) 1 0)) : wp_Mo_step M2 K2 := by
  have f38 : mz_i (mz_si M2 (30, 0) 1 0) (30, 0) 38 = 1 := (h2.1 30 38 rfl).trans z1
  have f43 : mz_i (mz_si (mz_si M2 (30, 0) 1 0) (44, 0) 1 0) (30, 0) 43 = v := (h2.1 30 43 rfl).trans e43
  rintro _ rfl
  refine ⟨fun _ => ?_, fun w => absurd (f38.symm.trans w) (by decide)⟩
  rintro _ rfl
  rw [f43]
  exact ⟨q0, q1, q2, q3, q5⟩
theorem rr_step (hob : ∀ c : Nat, c < 21 → obPred 1 c) : sim_step RR := by
  intro M1 M2 ov hl1 hl2 hR
  obtain ⟨m1, L1, m2, L2, h1, h2, hE⟩ := hR
  obtain ⟨⟨c1, c01⟩, c2⟩ := hE.2.2.2.2.2.2.1
  have e2 : mz_i M1 (22, 0) 2 = mz_i m2 (30, 0) 38 := (h1.1 (22, 0) 2 rfl).trans c1
  unfold wh_Law_step wp_PL_step
  rw [e2]
  refine ⟨fun z => ?_, fun z => ?_⟩
  · have z1 : mz_i m2 (30, 0) 38 = 1 := (z01 c01).mp z
    refine pl_clear h1 (fun N1 g1 => ?_)
    have gG : A2 (mz_si (mz_si M2 (30, 0) 1 0) (44, 0) 1 0) (mz_si m2 (30, 0) 1 0) (lu L2 45 1 []) := (h2.si (t := 30) (k := 1) (v := 0) rfl).clr (t := 45) (i := 1) rfl
    have hEE : EE m1 (lu L1 9 1 []) (mz_si m2 (30, 0) 1 0) (lu L2 45 1 []) := by
      obtain ⟨s1, s2, s3, s4, s5, s6, s7, s8, s9, s10, s11, s12, s13, s14, s15, s16⟩ := hE.2.1
      exact ⟨hE.1, ⟨s1, rfl, s3, s4, s5, s6, s7, s8, s9, s10, s11, s12, s13, s14, s15, s16⟩, hE.2.2⟩
    obtain ⟨q3, _, _, _, q6, _⟩ := c2 z1
    have hss : ∀ v : Int32, mz_i m2 (30, 0) 43 = v → SS false (mz_i m2 (30, 0) 39) v N1 (mz_si (mz_si M2 (30, 0) 1 0) (44, 0) 1 0) := fun v e => ⟨m1, _, _, _, g1, gG, hEE, ⟨z1, rfl, e, rfl⟩, fun w => absurd w (by decide)⟩
    have e7 : mz_i N1 (22, 0) 7 = mz_i m1 (22, 0) 7 := g1.1 (22, 0) 7 rfl
    have e6 : mz_i N1 (22, 0) 6 = mz_i m1 (22, 0) 6 := g1.1 (22, 0) 6 rfl
    have e3 : mz_i N1 (22, 0) 3 = mz_i m2 (30, 0) 39 := (g1.1 (22, 0) 3 rfl).trans q3
    have fin : ∀ (v : Int32) (M1' : MzM), (∀ K2 : Int32 → MzM → Prop, (∀ M2', PostS M1' M2' → K2 v M2') → wp_Mo_step M2 K2) → wp_Mo_step M2 (fun w M2' => wp_Mo_thrown M2' (fun t M2'' => t = 0 ∧ ((0 : Int32) = 0 → v.toInt64 = w.toInt64) ∧ RR M1' M2'')) := fun v M1' hq => hq _ (fun M2' hP => ⟨hP.1, fun _ => rfl, hP.2⟩)
    rw [e7]
    rcases q6 with ⟨p7, p6, p43⟩ | ⟨p7, p43, _⟩
    · rw [p7, e6, p6, e3]
      refine ⟨fun _ => ?_, fun w => absurd rfl w⟩
      rcases p43 with p | p | p | p
      · rw [p]
        refine ⟨fun _ => ph_login hob (hss 0 p) (fun v M1' hr => fin v M1' (fun K2 q => ?_)), fun w => absurd w (by decide), fun w => absurd w (by decide), fun w => absurd rfl w⟩
        exact st_ref h2 z1 p (fun _ => hr K2 q) (fun w => absurd w (by decide)) (fun w => absurd w (by decide)) (fun w => absurd w (by decide)) (fun w => absurd rfl w)
      · rw [p]
        refine ⟨fun w => absurd w (by decide), fun _ => ⟨fun y => ?_, fun y => ?_⟩, fun w => absurd w (by decide), fun _ w => absurd rfl w⟩
        · have hs := hss 1 p
          rw [y] at hs
          refine ph_fetch hob hs (fun v M1' hr => fin v M1' (fun K2 q => ?_))
          exact st_ref h2 z1 p (fun w => absurd w (by decide)) (fun _ => hr K2 q) (fun w => absurd w (by decide)) (fun w => absurd w (by decide)) (fun _ w => absurd rfl w)
        · refine ph_bring hob (hss 1 p) y (fun v M1' hr => fin v M1' (fun K2 q => ?_))
          exact st_ref h2 z1 p (fun w => absurd w (by decide)) (fun _ => hr K2 q) (fun w => absurd w (by decide)) (fun w => absurd w (by decide)) (fun _ w => absurd rfl w)
      · rw [p]
        refine ⟨fun w => absurd w (by decide), fun w => absurd w (by decide), fun _ => ⟨fun y => ?_, fun y => ?_⟩, fun _ _ w => absurd rfl w⟩
        · have hs := hss 2 p
          rw [y] at hs
          refine ph_fb hs (fun v M1' hr => fin v M1' (fun K2 q => ?_))
          exact st_ref h2 z1 p (fun w => absurd w (by decide)) (fun w => absurd w (by decide)) (fun _ => hr K2 q) (fun w => absurd w (by decide)) (fun _ _ w => absurd rfl w)
        · refine ph_bb (hss 2 p) y (fun v M1' hr => fin v M1' (fun K2 q => ?_))
          exact st_ref h2 z1 p (fun w => absurd w (by decide)) (fun w => absurd w (by decide)) (fun _ => hr K2 q) (fun w => absurd w (by decide)) (fun _ _ w => absurd rfl w)
      · rw [p]
        refine ⟨fun w => absurd w (by decide), fun w => absurd w (by decide), fun w => absurd w (by decide), fun _ _ _ => ?_⟩
        refine ph_put hob (hss 3 p) (fun v M1' hr => fin v M1' (fun K2 q => ?_))
        exact st_ref h2 z1 p (fun w => absurd w (by decide)) (fun w => absurd w (by decide)) (fun w => absurd w (by decide)) (fun _ => hr K2 q) (fun _ _ _ w => absurd rfl w)
    · rw [p7]
      refine ⟨fun w => absurd w (by decide), fun _ => ?_⟩
      rintro _ rfl
      refine fin 5 _ (fun K2 q => ?_)
      exact st_ref h2 z1 p43 (fun w => absurd w (by decide)) (fun w => absurd w (by decide)) (fun w => absurd w (by decide)) (fun w => absurd w (by decide)) (fun _ _ _ _ => stK_fin (by decide) (q _ (ss_fin (hss 5 p43))))
  · refine ⟨rfl, ?_⟩
    have f38 : mz_i (mz_si M2 (30, 0) 1 0) (30, 0) 38 = 0 := (h2.1 30 38 rfl).trans z
    rintro _ rfl
    refine ⟨fun w => absurd f38 w, fun _ => ?_⟩
    rintro _ rfl
    exact ⟨rfl, fun h9 => absurd h9 (by decide), m1, L1, _, L2, h1, (h2.si (t := 30) (k := 1) (v := 0) rfl).si (t := 30) (k := 1) (v := 1) rfl, (hE.c30 0).c30 1⟩
/-! the whole -/
theorem ob0_all : ∀ c : Nat, c < 21 → obPred 0 c := by
  intro c hc
  match c, hc with
  | 0, _ => exact ob_0_0
  | 1, _ => exact ob_0_1
  | 2, _ => exact ob_0_2
  | 3, _ => exact ob_0_3
  | 4, _ => exact ob_0_4
  | 5, _ => exact ob_0_5
  | 6, _ => exact ob_0_6
  | 7, _ => exact ob_0_7
  | 8, _ => exact ob_0_8
  | 9, _ => exact ob_0_9
  | 10, _ => exact ob_0_10
  | 11, _ => exact ob_0_11
  | 12, _ => exact ob_0_12
  | 13, _ => exact ob_0_13
  | 14, _ => exact ob_0_14
  | 15, _ => exact ob_0_15
  | 16, _ => exact ob_0_16
  | 17, _ => exact ob_0_17
  | 18, _ => exact ob_0_18
  | 19, _ => exact ob_0_19
  | 20, _ => exact ob_0_20
  | n + 21, h => exact absurd h (by omega)
theorem ob1_all : ∀ c : Nat, c < 21 → obPred 1 c := by
  intro c hc
  match c, hc with
  | 0, _ => exact ob_1_0
  | 1, _ => exact ob_1_1
  | 2, _ => exact ob_1_2
  | 3, _ => exact ob_1_3
  | 4, _ => exact ob_1_4
  | 5, _ => exact ob_1_5
  | 6, _ => exact ob_1_6
  | 7, _ => exact ob_1_7
  | 8, _ => exact ob_1_8
  | 9, _ => exact ob_1_9
  | 10, _ => exact ob_1_10
  | 11, _ => exact ob_1_11
  | 12, _ => exact ob_1_12
  | 13, _ => exact ob_1_13
  | 14, _ => exact ob_1_14
  | 15, _ => exact ob_1_15
  | 16, _ => exact ob_1_16
  | 17, _ => exact ob_1_17
  | 18, _ => exact ob_1_18
  | 19, _ => exact ob_1_19
  | 20, _ => exact ob_1_20
  | n + 21, h => exact absurd h (by omega)
theorem rr_sim : mzSim RR := ⟨rr_feed_of ob0_all ob1_all, rr_close, rr_bring, rr_take, rr_cut, rr_crash, rr_waiting, rr_reply, rr_node, rr_content, rr_current, rr_running, rr_fill, rr_shelf, rr_job, rr_step ob1_all⟩
