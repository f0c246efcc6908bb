theorem sim_content_of {R : MzM → MzM → Prop} (hc : clrThrown R) (hkd : ∀ M1 M2, R M1 M2 → ∀ n, n < 16 → (mz_i M1 (3, n) 1 = 2 ↔ (¬ mz_i M2 (32, 0) n = 0 ∧ ¬ mz_i M2 (33, 0) n = 0))) (hlen : ∀ M1 M2, R M1 M2 → ∀ n, n < 16 → mz_i M1 (3, n) 1 = 2 → mz_i M1 (4, n) 1 = mz_i M2 (36, 0) n ∧ (mz_i M1 (4, n) 1).toInt ≤ 24) (hby : ∀ M1 M2, R M1 M2 → ∀ n j : Nat, n < 16 → mz_i M1 (3, n) 1 = 2 → (j : Int) < (mz_i M1 (4, n) 1).toInt → mz_i M1 (5, n) j = mz_i M2 (38, 0) (24 * n + j)) : sim_content R := by
  intro M1 M2 a b hl1 hl2 hR
  have hR' := hc M1 M2 hR
  have g16 : (16 : Int32).toInt = 16 := rfl
  have g15 : (15 : Int32).toInt = 15 := rfl
  have bad : (a < 0 ∨ 16 ≤ a) → wp_Mo_content a b M2 (fun w M2' => (-1 : Int32) = w ∧ R M1 M2') := by
    rintro h M rfl
    refine ⟨fun _ => ⟨rfl, hR'⟩, fun h0 => ⟨fun h2 => ?_, fun _ => ⟨rfl, hR'⟩⟩⟩
    rcases h with h | h
    · exact absurd h h0
    · have g1 : (16 : Int32).toInt ≤ a.toInt := Int32.le_iff_toInt_le.mp h
      have g2 : a.toInt ≤ (15 : Int32).toInt := Int32.le_iff_toInt_le.mp h2
      omega
  refine ⟨fun h => ⟨fun _ => bad (Or.inl h), fun h9 => absurd rfl h9⟩, fun h => ⟨fun h3 => ⟨fun _ => bad (Or.inr h3), fun h9 => absurd rfl h9⟩, fun h3 => ?_⟩⟩
  have q0 : ¬ (16 : Int32).toInt ≤ a.toInt := fun q => h3 (Int32.le_iff_toInt_le.mpr q)
  have ha2 : a ≤ 15 := Int32.le_iff_toInt_le.mpr (by omega)
  obtain ⟨n, hn, hn16⟩ := i32_nat (n := 16) h (by omega)
  have ek := hkd _ _ hR' n hn16
  refine ⟨n, hn, hn16, fun hf => ⟨fun _ => ?_, fun h9 => absurd rfl h9⟩, fun hf => ⟨fun h9 => absurd h9 (by decide), fun _ => ⟨n, hn, hn16, ?_⟩⟩⟩
  · rintro M rfl
    refine ⟨fun h9 => absurd h9 h, fun _ => ⟨fun _ => ⟨n, hn, hn16, fun _ => ⟨rfl, hR'⟩, fun ht => ⟨n, hn, hn16, fun _ => ⟨rfl, hR'⟩, fun hi => absurd (ek.mpr ⟨ht, hi⟩) hf⟩⟩, fun h9 => absurd ha2 h9⟩⟩
  · obtain ⟨ht, hi⟩ := ek.mp hf
    obtain ⟨e1, e3⟩ := hlen _ _ hR' n hn16 hf
    have hbk := fun j : Nat => hby _ _ hR' n j hn16 hf
    have g24 : (24 : Int32).toInt = 24 := rfl
    refine ⟨fun hb0 => ?_, fun hb0 => ⟨fun hle => ?_, fun hle => ⟨fun h24 => ?_, fun h24 => ?_⟩⟩⟩
    · rintro M rfl
      exact ⟨fun h9 => absurd h9 h, fun _ => ⟨fun _ => ⟨n, hn, hn16, fun h9 => absurd h9 ht, fun _ => ⟨n, hn, hn16, fun h9 => absurd h9 hi, fun _ => ⟨fun _ => ⟨rfl, hR'⟩, fun h9 => absurd hb0 h9⟩⟩⟩, fun h9 => absurd ha2 h9⟩⟩
    · rintro M rfl
      have q1 := Int32.le_iff_toInt_le.mp hle
      exact ⟨fun h9 => absurd h9 h, fun _ => ⟨fun _ => ⟨n, hn, hn16, fun h9 => absurd h9 ht, fun _ => ⟨n, hn, hn16, fun h9 => absurd h9 hi, fun _ => ⟨fun h9 => absurd h9 hb0, fun _ => ⟨n, hn, hn16, fun h9 => by
        have q2 := Int32.lt_iff_toInt_lt.mp h9
        rw [← e1] at q2
        omega, fun _ => ⟨rfl, hR'⟩⟩⟩⟩⟩, fun h9 => absurd ha2 h9⟩⟩
    · have q1 := Int32.le_iff_toInt_le.mp h24
      have q2 : ¬ (mz_i M1 (4, n) 1).toInt ≤ b.toInt := fun q => hle (Int32.le_iff_toInt_le.mpr q)
      omega
    · have q2 : ¬ (mz_i M1 (4, n) 1).toInt ≤ b.toInt := fun q => hle (Int32.le_iff_toInt_le.mpr q)
      obtain ⟨j, hj, hj24⟩ := i32_nat (n := 24) hb0 (by omega)
      refine ⟨j, hj, hj24, ?_⟩
      rintro M rfl
      exact ⟨fun h9 => absurd h9 h, fun _ => ⟨fun _ => ⟨n, hn, hn16, fun h9 => absurd h9 ht, fun _ => ⟨n, hn, hn16, fun h9 => absurd h9 hi, fun _ => ⟨fun h9 => absurd h9 hb0, fun _ => ⟨n, hn, hn16, fun _ => ⟨24 * n + j, i32_mad hn hj (by omega) (by omega), by omega, hbk j (by omega), hR'⟩, fun h9 => absurd (Int32.lt_iff_toInt_lt.mpr (by rw [← e1]; omega)) h9⟩⟩⟩⟩, fun h9 => absurd ha2 h9⟩⟩
