theorem sim_node_of {R : MzM → MzM → Prop} (hc : clrThrown R) (hth : ∀ M1 M2, R M1 M2 → ∀ n, n < 16 → (mz_i M1 (3, n) 1 = 0 ↔ mz_i M2 (32, 0) n = 0)) (hfi : ∀ M1 M2, R M1 M2 → ∀ n, n < 16 → ¬ mz_i M1 (3, n) 1 = 0 → (mz_i M1 (3, n) 1 = 2 ↔ ¬ mz_i M2 (33, 0) n = 0)) (hpa : ∀ M1 M2, R M1 M2 → ∀ n, n < 16 → ¬ n = 0 → ¬ mz_i M1 (3, n) 1 = 0 → mz_i M1 (3, n) 2 = mz_i M2 (34, 0) n ∧ 0 ≤ mz_i M2 (34, 0) n) (hp0 : ∀ M1 M2, R M1 M2 → ¬ 0 ≤ mz_i M2 (34, 0) 0) (hsz : ∀ M1 M2, R M1 M2 → ∀ n, n < 16 → mz_i M1 (3, n) 1 = 2 → mz_i M1 (4, n) 1 = mz_i M2 (36, 0) n) (hnm : ∀ M1 M2, R M1 M2 → ∀ n, n < 16 → ¬ mz_i M1 (3, n) 1 = 0 → mz_i M1 (3, n) 3 = mz_i M2 (35, 0) n) : sim_node R := by
  intro M1 M2 a b hl1 hl2 hR
  have hR' := hc M1 M2 hR
  have g16 : (16 : Int32).toInt = 16 := rfl
  have g15 : (15 : Int32).toInt = 15 := rfl
  have bad : (a < 0 ∨ 16 ≤ a) → wp_Mo_node a b M2 (fun w M2' => (-1 : Int32) = w ∧ R M1 M2') := by
    rintro h M rfl
    refine ⟨fun _ => ⟨rfl, hR'⟩, fun h0 => ⟨fun h2 => ?_, fun _ => ⟨rfl, hR'⟩⟩⟩
    rcases h with h | h
    · exact absurd h h0
    · have g1 : (16 : Int32).toInt ≤ a.toInt := Int32.le_iff_toInt_le.mp h
      have g2 : a.toInt ≤ (15 : Int32).toInt := Int32.le_iff_toInt_le.mp h2
      omega
  refine ⟨fun h => ⟨fun h9 => absurd rfl h9, fun _ => bad (Or.inl h)⟩, fun h => ⟨fun h3 => ⟨fun h9 => absurd rfl h9, fun _ => bad (Or.inr h3)⟩, fun h3 => ?_⟩⟩
  have q0 : ¬ (16 : Int32).toInt ≤ a.toInt := fun q => h3 (Int32.le_iff_toInt_le.mpr q)
  have ha2 : a ≤ 15 := Int32.le_iff_toInt_le.mpr (by omega)
  obtain ⟨n, hn, hn16⟩ := i32_nat (n := 16) h (by omega)
  have et := hth _ _ hR' n hn16
  have a0 : a = 0 ↔ n = 0 := by
    constructor
    · intro e
      have h0 : (0 : Int32).toInt = 0 := rfl
      rw [e, h0] at hn
      omega
    · intro e
      exact Int32.toInt_inj.mp (by rw [hn, e]; rfl)
  refine ⟨n, hn, hn16, fun hf => ⟨fun h9 => absurd rfl h9, fun _ => ?_⟩, fun hf => ⟨fun _ => ⟨n, hn, hn16, ?_⟩, fun h9 => absurd h9 (by decide)⟩⟩
  · rintro M rfl
    exact ⟨fun h9 => absurd h9 h, fun _ => ⟨fun _ => ⟨n, hn, hn16, fun h9 => absurd (et.mp hf) h9, fun _ => ⟨rfl, hR'⟩⟩, fun h9 => absurd ha2 h9⟩⟩
  · have ht : ¬ mz_i (mz_si M2 (30, 0) 1 0) (32, 0) n = 0 := fun q => hf (et.mpr q)
    have ef := hfi _ _ hR' n hn16 hf
    refine ⟨fun hb => ⟨fun h1 => ?_, fun h1 => ?_⟩, fun hb => ⟨fun h1 => ?_, fun h1 => ?_⟩, fun hb => ⟨fun h1 => ?_, fun h1 => ?_⟩, fun hb => ?_, fun b0 b1 b2 b3 => ?_⟩
    · obtain ⟨p1, p2⟩ := hpa _ _ hR' n hn16 (fun q => h1 (a0.mpr q)) hf
      rintro M rfl
      exact ⟨fun h9 => absurd h9 h, fun _ => ⟨fun _ => ⟨n, hn, hn16, fun _ => ⟨fun _ => ⟨n, hn, hn16, fun _ => ⟨n, hn, hn16, p1, hR'⟩, fun h9 => absurd p2 h9⟩, fun e => absurd (hb.symm.trans e) (by decide), fun e => absurd (hb.symm.trans e) (by decide), fun e => absurd (hb.symm.trans e) (by decide), fun e => absurd hb e⟩, fun h9 => absurd h9 ht⟩, fun h9 => absurd ha2 h9⟩⟩
    · have n0 : n = 0 := a0.mp h1
      have p2 : ¬ 0 ≤ mz_i (mz_si M2 (30, 0) 1 0) (34, 0) n := fun q => hp0 _ _ hR' (by rw [n0] at q; exact q)
      rintro M rfl
      exact ⟨fun h9 => absurd h9 h, fun _ => ⟨fun _ => ⟨n, hn, hn16, fun _ => ⟨fun _ => ⟨n, hn, hn16, fun h9 => absurd h9 p2, fun _ => ⟨rfl, hR'⟩⟩, fun e => absurd (hb.symm.trans e) (by decide), fun e => absurd (hb.symm.trans e) (by decide), fun e => absurd (hb.symm.trans e) (by decide), fun e => absurd hb e⟩, fun h9 => absurd h9 ht⟩, fun h9 => absurd ha2 h9⟩⟩
    · rintro M rfl
      exact ⟨fun h9 => absurd h9 h, fun _ => ⟨fun _ => ⟨n, hn, hn16, fun _ => ⟨fun e => absurd (hb.symm.trans e) (by decide), fun _ => ⟨n, hn, hn16, fun _ => ⟨rfl, hR'⟩, fun h9 => absurd (ef.mpr h9) h1⟩, fun e => absurd (hb.symm.trans e) (by decide), fun e => absurd (hb.symm.trans e) (by decide), fun _ e => absurd hb e⟩, fun h9 => absurd h9 ht⟩, fun h9 => absurd ha2 h9⟩⟩
    · rintro M rfl
      exact ⟨fun h9 => absurd h9 h, fun _ => ⟨fun _ => ⟨n, hn, hn16, fun _ => ⟨fun e => absurd (hb.symm.trans e) (by decide), fun _ => ⟨n, hn, hn16, fun h9 => absurd h9 (ef.mp h1), fun _ => ⟨rfl, hR'⟩⟩, fun e => absurd (hb.symm.trans e) (by decide), fun e => absurd (hb.symm.trans e) (by decide), fun _ e => absurd hb e⟩, fun h9 => absurd h9 ht⟩, fun h9 => absurd ha2 h9⟩⟩
    · refine pl_countIn ?_
      rintro M rfl
      refine ⟨fun h9 => absurd h9 h, fun _ => ⟨fun _ => ⟨n, hn, hn16, fun _ => ⟨fun e => absurd (hb.symm.trans e) (by decide), fun e => absurd (hb.symm.trans e) (by decide), fun _ => ⟨n, hn, hn16, fun _ => mo_inside ⟨mzCntF_congr 15 1 0 (fun i i1 i2 => ?_), hR'⟩, fun h9 => absurd (ef.mpr h9) h1⟩, fun e => absurd (hb.symm.trans e) (by decide), fun _ _ e => absurd hb e⟩, fun h9 => absurd h9 ht⟩, fun h9 => absurd ha2 h9⟩⟩
      have ti := hth _ _ hR' i (by omega)
      by_cases hk : mz_i M1 (3, i) 1 = 0
      · have hk2 := ti.mp hk
        simp [hk, hk2]
      · have hk2 := fun q => hk (ti.mpr q)
        have hp := (hpa _ _ hR' i (by omega) (by omega) hk).1
        simp [hk, hp, show ¬ mz_i (mz_si M2 (30, 0) 1 0) (32, 0) i = 0 from hk2]
    · have es := hsz _ _ hR' n hn16 h1
      rintro M rfl
      exact ⟨fun h9 => absurd h9 h, fun _ => ⟨fun _ => ⟨n, hn, hn16, fun _ => ⟨fun e => absurd (hb.symm.trans e) (by decide), fun e => absurd (hb.symm.trans e) (by decide), fun _ => ⟨n, hn, hn16, fun h9 => absurd h9 (ef.mp h1), fun _ => ⟨n, hn, hn16, es, hR'⟩⟩, fun e => absurd (hb.symm.trans e) (by decide), fun _ _ e => absurd hb e⟩, fun h9 => absurd h9 ht⟩, fun h9 => absurd ha2 h9⟩⟩
    · have es := hnm _ _ hR' n hn16 hf
      rintro M rfl
      exact ⟨fun h9 => absurd h9 h, fun _ => ⟨fun _ => ⟨n, hn, hn16, fun _ => ⟨fun e => absurd (hb.symm.trans e) (by decide), fun e => absurd (hb.symm.trans e) (by decide), fun e => absurd (hb.symm.trans e) (by decide), fun _ => ⟨n, hn, hn16, es, hR'⟩, fun _ _ _ e => absurd hb e⟩, fun h9 => absurd h9 ht⟩, fun h9 => absurd ha2 h9⟩⟩
    · rintro M rfl
      exact ⟨fun h9 => absurd h9 h, fun _ => ⟨fun _ => ⟨n, hn, hn16, fun _ => ⟨fun e => absurd e b0, fun e => absurd e b1, fun e => absurd e b2, fun e => absurd e b3, fun _ _ _ _ => ⟨rfl, hR'⟩⟩, fun h9 => absurd h9 ht⟩, fun h9 => absurd ha2 h9⟩⟩
