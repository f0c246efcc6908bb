def nmV (v : Int32) : Prop := ∃ n : Nat, v.toInt = (n : Int) ∧ 0 < n ∧ nmOK n
theorem pz_name {v : Int32} {K : Int32 → Prop} (h1 : nmV v → K 1) (h0 : ¬ nmV v → K 0) : wz_PL_isName v K := by
  by_cases hv : v ≤ 0
  · refine pz_isName0 hv (h0 ?_)
    rintro ⟨n, e, hn, _⟩
    have q := (ile (n := 0) e rfl).mp hv
    omega
  · have q : ¬ v.toInt ≤ 0 := fun q => hv (Int32.le_iff_toInt_le.mpr q)
    have e : v.toInt = ((v.toInt.toNat : Nat) : Int) := by omega
    refine pz_isName e (by omega) (fun z => h1 ⟨_, e, by omega, z⟩) (fun z => h0 ?_)
    rintro ⟨n, e', _, h⟩
    have e2 : n = v.toInt.toNat := by omega
    rw [e2] at h
    exact z h
theorem mo_name {v : Int32} {M : MzM} {K : Int32 → MzM → Prop} (h1 : nmV v → K 1 M) (h0 : ¬ nmV v → K 0 M) : wp_Mo_isName v M K := by
  by_cases hv : v ≤ 0
  · refine ⟨fun _ => h0 ?_, fun h9 => absurd hv h9⟩
    rintro ⟨n, e, hn, _⟩
    have q := (ile (n := 0) e rfl).mp hv
    omega
  · have q : ¬ v.toInt ≤ 0 := fun q => hv (Int32.le_iff_toInt_le.mpr q)
    have e : v.toInt = ((v.toInt.toNat : Nat) : Int) := by omega
    refine mo_isName e (by omega) (fun z => h1 ⟨_, e, by omega, z⟩) (fun z => h0 ?_)
    rintro ⟨n, e', _, h⟩
    have e2 : n = v.toInt.toNat := by omega
    rw [e2] at h
    exact z h
theorem g30 {g : MzM} {t k j : Nat} {v : Int32} (ht : t ≠ 30) : mz_i (mz_si g (30, 0) j v) (t, 0) k = mz_i g (t, 0) k := by
  rw [mz_i_si, if_neg (fun z => ht (congrArg Prod.fst z.1))]
theorem rr_job : sim_job RR := by
  intro M1 M2 ov a1 a2 a3 a4 ha1 hl1 hl2 hR
  obtain ⟨m1, L1, m2, L2, h1, h2, hE⟩ := hR
  have eon : mz_i M1 (22, 0) 2 = mz_i m2 (30, 0) 38 := (h1.1 _ _ rfl).trans hE.2.2.2.2.2.2.1.1.1
  have h20 : ∀ N, N = mz_si M2 (30, 0) 1 0 → A2 N (mz_si m2 (30, 0) 1 0) L2 := fun N hN => by rw [hN]; exact h2.si (t := 30) rfl
  have t40 : ∀ N, A2 N (mz_si m2 (30, 0) 1 0) L2 → wp_Mo_job_40 (fun M2' => wp_Mo_thrown M2' (fun t M3 => t = 1 ∧ RR M1 M3)) a1 a2 a3 a4 N := by
    intro N hN
    rintro _ rfl
    exact ⟨fun h9 => absurd (show (1 : Int32) = 0 from h9) (by decide), fun _ => ⟨rfl, m1, L1, _, L2, h1, hN.si (t := 30) (k := 1) (v := 1) rfl, (hE.c30 0).c30 1⟩⟩
  have c23 : ¬ (3 : Int32) ≤ a2 ↔ ¬ (2 : Int32) < a2 := by
    have q3 : (3 : Int32).toInt = 3 := rfl
    have q2 : (2 : Int32).toInt = 2 := rfl
    rw [Int32.le_iff_toInt_le, Int32.lt_iff_toInt_lt]
    omega
  have bad : (a2 < 0 ∨ 3 ≤ a2 ∨ ¬ nmV a3 ∨ a3 = 1849076 ∨ a4 < 0 ∨ ¬ a4 ≤ 9) → wp_Mo_job a1 a2 a3 a4 M2 (fun M2' => wp_Mo_thrown M2' (fun t M3 => t = 1 ∧ RR M1 M3)) := by
    intro hb N hN
    have hN' := h20 N hN
    refine ⟨fun _ => t40 N hN', fun g1 => ⟨fun _ => t40 N hN', fun g2 => mo_name (fun hv => ⟨fun h9 => absurd h9 (by decide), fun _ => ⟨fun _ => t40 N hN', fun g3 => ⟨fun _ => t40 N hN', fun g4 => ⟨fun g5 => ?_, fun _ => t40 N hN'⟩⟩⟩⟩) (fun hv => ⟨fun _ => t40 N hN', fun h9 => absurd rfl h9⟩)⟩⟩
    rcases hb with b | b | b | b | b | b
    · exact absurd b g1
    · exact absurd b (c23.mpr g2)
    · exact absurd hv b
    · exact absurd b g3
    · exact absurd b g4
    · exact absurd g5 b
  refine ⟨fun g1 => ⟨fun _ => Or.inl ⟨rfl, bad (Or.inl g1)⟩, fun h9 => absurd rfl h9⟩, fun g1 => ⟨fun g2 => ⟨fun _ => Or.inl ⟨rfl, bad (Or.inr (Or.inl g2))⟩, fun h9 => absurd rfl h9⟩, fun g2 => ⟨fun h9 => absurd h9 (by decide), fun _ => pz_name (fun hv => ⟨fun h9 => absurd h9 (by decide), fun _ => ⟨fun g3 => Or.inl ⟨rfl, bad (Or.inr (Or.inr (Or.inr (Or.inl g3))))⟩, fun g3 => ⟨fun g4 => Or.inl ⟨rfl, bad (Or.inr (Or.inr (Or.inr (Or.inr (Or.inl g4)))))⟩, fun g4 => ⟨fun g5 => ⟨fun g6 => ?_, fun g6 => Or.inr ⟨rfl, ?_⟩⟩, fun g5 => Or.inl ⟨rfl, bad (Or.inr (Or.inr (Or.inr (Or.inr (Or.inr g5)))))⟩⟩⟩⟩⟩) (fun hv => ⟨fun _ => Or.inl ⟨rfl, bad (Or.inr (Or.inr (Or.inl hv)))⟩, fun h9 => absurd rfl h9⟩)⟩⟩⟩
  · rw [eon] at g6
    obtain ⟨m3, L3, L4, hE3, p1, p2, f22, _⟩ := drop_1 hE.thr
    refine p1 M1 _ h1 (fun M3 h3 => ?_)
    have ha3 : a2.toInt < ((3 : Nat) : Int) := by
      have q3 : (3 : Int32).toInt = 3 := rfl
      have q0 : ¬ (3 : Int32).toInt ≤ a2.toInt := fun q => g2 (Int32.le_iff_toInt_le.mpr q)
      omega
    have ha9 : a4.toInt < ((10 : Nat) : Int) := by
      have q9 : (9 : Int32).toInt = 9 := rfl
      have q := Int32.le_iff_toInt_le.mp g5
      omega
    obtain ⟨k, hk, hk3⟩ := i32_nat (n := 3) g1 ha3
    obtain ⟨n, hn, hn9⟩ := i32_nat (n := 10) g4 ha9
    refine ⟨k, hk, hk3, ?_⟩
    rintro _ rfl
    refine ⟨ha1, ?_⟩
    rintro _ rfl _ rfl _ rfl _ rfl _ rfl _ rfl _ rfl
    have k1 := h3.si (o := (22, 0)) (k := 2) (v := 1) rfl
    have k2 := k1.si (o := (22, 0)) (k := 3) (v := a1) rfl
    have k3 := k2.sr (o := (22, 0)) (k := 1) (v := some (20, k))
    have k4 := k3.si (o := (22, 0)) (k := 4) (v := a3) rfl
    have k5 := k4.si (o := (22, 0)) (k := 5) (v := a4) rfl
    have k6 := k5.si (o := (22, 0)) (k := 6) (v := 0) rfl
    have k7 := k6.si (o := (22, 0)) (k := 7) (v := 0) rfl
    have k8 := k7.si (o := (22, 0)) (k := 8) (v := 0) rfl
    intro N hN
    have hN' := h20 N hN
    have on0 : mz_i N (30, 0) 38 = 0 := (hN'.1 30 38 rfl).trans g6
    have th0 : mz_i N (30, 0) 1 = 0 := (hN'.1 30 1 rfl).trans rfl
    refine ⟨fun h9 => absurd h9 g1, fun _ => ⟨fun h9 => absurd h9 (c23.mp g2), fun _ => mo_name (fun _ => ⟨fun h9 => absurd h9 (by decide), fun _ => ⟨fun h9 => absurd h9 g3, fun _ => ⟨fun h9 => absurd h9 g4, fun _ => ⟨fun _ => ⟨fun _ => ⟨fun _ => ?_, fun h9 => absurd th0 h9⟩, fun h9 => absurd on0 h9⟩, fun h9 => absurd g5 h9⟩⟩⟩⟩) (fun h9 => absurd hv h9)⟩⟩
    rintro _ rfl
    refine ⟨ha1, ?_⟩
    rintro _ rfl _ rfl _ rfl _ rfl _ rfl
    have l1 := hN'.si (t := 30) (k := 38) (v := 1) rfl
    have l2 := l1.si (t := 30) (k := 39) (v := a1) rfl
    have l3 := l2.si (t := 30) (k := 40) (v := a2) rfl
    have l4 := l3.si (t := 30) (k := 41) (v := a3) rfl
    have l5 := l4.si (t := 30) (k := 42) (v := a4) rfl
    have l6 := l5.si (t := 30) (k := 43) (v := 0) rfl
    refine p2 _ _ 1 _ rfl (fun t q ht => ?_) l6 (fun M4 h4 => ⟨?_, _, _, _, _, k8, h4, ?_⟩)
    · rw [g30 ht, g30 ht, g30 ht, g30 ht, g30 ht, g30 ht]
    · rw [h4.1 30 1 rfl]
      rfl
    · obtain ⟨n', e', hn', hok⟩ := hv
      exact ⟨hE3.1, hE3.2.1, hE3.2.2.1, hE3.2.2.2.1, hE3.2.2.2.2.1, hE3.2.2.2.2.2.1, ⟨⟨rfl, Or.inr rfl⟩, fun _ => ⟨rfl, ⟨k, hk3, rfl, iofn hk⟩, ⟨rfl, nmOK_nmE e' hok⟩, ⟨rfl, n, by omega, iofn hn⟩, Or.inl ⟨rfl, rfl, Or.inl rfl⟩, fun z => absurd (show (0 : Int32) = 2 from z) (by decide)⟩⟩, hE3.2.2.2.2.2.2.2.1, hE3.2.2.2.2.2.2.2.2⟩
  · rw [eon] at g6
    intro N hN
    have hN' := h20 N hN
    have on1 : ¬ mz_i N (30, 0) 38 = 0 := fun z => g6 ((hN'.1 30 38 rfl).symm.trans z)
    refine ⟨fun h9 => absurd h9 g1, fun _ => ⟨fun h9 => absurd h9 (c23.mp g2), fun _ => mo_name (fun _ => ⟨fun h9 => absurd h9 (by decide), fun _ => ⟨fun h9 => absurd h9 g3, fun _ => ⟨fun h9 => absurd h9 g4, fun _ => ⟨fun _ => ⟨fun h9 => absurd h9 on1, fun _ => ?_⟩, fun h9 => absurd g5 h9⟩⟩⟩⟩) (fun h9 => absurd hv h9)⟩⟩
    rintro _ rfl
    exact ⟨fun h9 => absurd (show (2 : Int32) = 0 from h9) (by decide), fun _ => ⟨rfl, m1, L1, _, L2, h1, hN'.si (t := 30) (k := 1) (v := 2) rfl, (hE.c30 0).c30 2⟩⟩
