theorem i32_mad {a b : Int32} {k j : Nat} (ha : a.toInt = (k : Int)) (hb : b.toInt = (j : Int)) (hk : k < 100) (hj : j < 400) : ((24 : Int32) * a + b).toInt = ((24 * k + j : Nat) : Int) := by
  have h24 : (24 : Int32).toInt = 24 := rfl
  rw [Int32.toInt_add, Int32.toInt_mul, ha, hb, h24]
  have e1 : ((24 : Int) * k).bmod (2 ^ 32) = 24 * k := by
    simp only [Int.bmod]
    split <;> omega
  have e2 : ((24 : Int) * k + j).bmod (2 ^ 32) = 24 * k + j := by
    simp only [Int.bmod]
    split <;> omega
  rw [e1, e2]
  omega
theorem i32_nat {a : Int32} {n : Nat} (h0 : ¬ a < 0) (h1 : a.toInt < (n : Int)) : ∃ k : Nat, a.toInt = (k : Int) ∧ k < n := by
  have g1 : ¬ a.toInt < 0 := fun h => h0 (Int32.lt_iff_toInt_lt.mpr h)
  exact ⟨a.toInt.toNat, by omega, by omega⟩
theorem sim_shelf_of {R : MzM → MzM → Prop} (hc : clrThrown R) (hlen : ∀ M1 M2, R M1 M2 → ∀ k, k < 3 → mz_i M1 (20, k) 1 = mz_i M2 (59, 0) k ∧ (mz_i M1 (20, k) 1).toInt ≤ 24) (hby : ∀ M1 M2, R M1 M2 → ∀ k j : Nat, k < 3 → (j : Int) < (mz_i M1 (20, k) 1).toInt → mz_i M1 (21, k) j = mz_i M2 (60, 0) (24 * k + j)) : sim_shelf R := by
  intro M1 M2 a b hl1 hl2 hR
  have hR' := hc M1 M2 hR
  have bad : (a < 0 ∨ 3 ≤ a) → wp_Mo_shelf a b M2 (fun w M2' => (-1 : Int32) = w ∧ R M1 M2') := by
    rintro h M rfl
    refine ⟨fun _ => ⟨rfl, hR'⟩, fun h0 => ⟨fun h2 => ?_, fun _ => ⟨rfl, hR'⟩⟩⟩
    rcases h with h | h
    · exact absurd h h0
    · have g1 : (3 : Int32).toInt ≤ a.toInt := Int32.le_iff_toInt_le.mp h
      have g2 : a.toInt ≤ (2 : Int32).toInt := Int32.le_iff_toInt_le.mp h2
      have g3 : (3 : Int32).toInt = 3 := rfl
      have g4 : (2 : Int32).toInt = 2 := rfl
      omega
  refine ⟨fun h => ⟨fun h9 => absurd rfl h9, fun _ => bad (Or.inl h)⟩, fun h => ⟨fun h3 => ⟨fun h9 => absurd rfl h9, fun _ => bad (Or.inr h3)⟩, fun h3 => ⟨fun _ => ?_, fun h9 => absurd h9 (by decide)⟩⟩⟩
  have g3 : (3 : Int32).toInt = 3 := rfl
  have g4 : (2 : Int32).toInt = 2 := rfl
  have ha3 : a.toInt < 3 := by
    have q0 : ¬ (3 : Int32).toInt ≤ a.toInt := fun q => h3 (Int32.le_iff_toInt_le.mpr q)
    omega
  have ha2 : a ≤ 2 := Int32.le_iff_toInt_le.mpr (by omega)
  obtain ⟨k, hk, hk3⟩ := i32_nat (n := 3) h ha3
  obtain ⟨e1, e3⟩ := hlen _ _ hR' k hk3
  have hbk := fun j : Nat => hby _ _ hR' k j hk3
  have g24 : (24 : Int32).toInt = 24 := rfl
  refine ⟨fun hb => ⟨k, hk, hk3, ?_⟩, fun hb => ⟨k, hk, hk3, ?_⟩⟩
  · refine ⟨fun hb0 => ?_, fun hb0 => ⟨fun hle => ?_, fun hle => ⟨fun h24 => ?_, fun h24 => ?_⟩⟩⟩
    · rintro M rfl
      exact ⟨fun h9 => absurd h9 h, fun _ => ⟨fun _ => ⟨fun _ => ⟨fun _ => ⟨rfl, hR'⟩, fun h9 => absurd hb0 h9⟩, fun h9 => absurd h9 hb⟩, fun h9 => absurd ha2 h9⟩⟩
    · rintro M rfl
      exact ⟨fun h9 => absurd h9 h, fun _ => ⟨fun _ => ⟨fun _ => ⟨fun h9 => absurd h9 hb0, fun _ => ⟨k, hk, hk3, fun _ => ⟨rfl, hR'⟩, fun h9 => absurd (e1 ▸ hle) h9⟩⟩, fun h9 => absurd h9 hb⟩, fun h9 => absurd ha2 h9⟩⟩
    · have q1 := Int32.le_iff_toInt_le.mp h24
      have q2 : ¬ (mz_i M1 (20, k) 1).toInt ≤ b.toInt := fun q => hle (Int32.le_iff_toInt_le.mpr q)
      omega
    · have q2 : ¬ (mz_i M1 (20, k) 1).toInt ≤ b.toInt := fun q => hle (Int32.le_iff_toInt_le.mpr q)
      obtain ⟨j, hj, hj24⟩ := i32_nat (n := 24) hb0 (by omega)
      refine ⟨j, hj, hj24, ?_⟩
      rintro M rfl
      refine ⟨fun h9 => absurd h9 h, fun _ => ⟨fun _ => ⟨fun _ => ⟨fun h9 => absurd h9 hb0, fun _ => ⟨k, hk, hk3, fun h9 => absurd (e1 ▸ h9) hle, fun _ => ⟨24 * k + j, i32_mad hk hj (by omega) (by omega), by omega, hbk j (by omega), hR'⟩⟩⟩, fun h9 => absurd h9 hb⟩, fun h9 => absurd ha2 h9⟩⟩
  · rintro M rfl
    exact ⟨fun h9 => absurd h9 h, fun _ => ⟨fun _ => ⟨fun h9 => absurd hb h9, fun _ => ⟨k, hk, hk3, e1, hR'⟩⟩, fun h9 => absurd ha2 h9⟩⟩
