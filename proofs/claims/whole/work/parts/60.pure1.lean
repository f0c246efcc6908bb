theorem i32_01 {a : Int32} (h : a = 0 ∨ a = 1) : ∃ x : Nat, a.toInt = (x : Int) ∧ x < 2 := by
  rcases h with rfl | rfl
  · exact ⟨0, rfl, by decide⟩
  · exact ⟨1, rfl, by decide⟩
theorem i32_lt2 {a : Int32} (h1 : ¬ a < 0) (h2 : ¬ (2 : Int32) ≤ a) : a = 0 ∨ a = 1 := by
  have g1 : ¬ a.toInt < 0 := fun h => h1 (Int32.lt_iff_toInt_lt.mpr h)
  have g2 : ¬ 2 ≤ a.toInt := fun h => h2 (Int32.le_iff_toInt_le.mpr h)
  have g3 : a.toInt = 0 ∨ a.toInt = 1 := by omega
  rcases g3 with h | h
  · exact Or.inl (Int32.toInt_inj.mp h)
  · exact Or.inr (Int32.toInt_inj.mp h)
theorem pl_ses {a : Int32} {M : MzM} {K : Int32 → MzM → Prop} (h1 : (a = 0 ∨ a = 1) → K 1 M) (h0 : ¬ (a = 0 ∨ a = 1) → K 0 M) : wp_PL_isSession a M K := by
  refine ⟨fun h => h0 ?_, fun h => ⟨fun h' => h0 ?_, fun h' => h1 (i32_lt2 h h')⟩⟩
  · rintro (rfl | rfl) <;> exact absurd h (by decide)
  · rintro (rfl | rfl) <;> exact absurd h' (by decide)
theorem mo_ses {a : Int32} {M : MzM} {K : Int32 → MzM → Prop} (h1 : (a = 0 ∨ a = 1) → K 1 M) (h0 : ¬ (a = 0 ∨ a = 1) → K 0 M) : wp_Mo_isSession a M K :=
  ⟨fun h => h1 (Or.inl h), fun h => ⟨fun h' => h0 (fun hh => hh.elim h h'), fun h' => h1 (Or.inr h')⟩⟩
/-- the reference forgets what it threw -/
def clrThrown (R : MzM → MzM → Prop) : Prop := ∀ M1 M2, R M1 M2 → R M1 (mz_si M2 (30, 0) 1 0)
theorem sim_waiting_of {R : MzM → MzM → Prop} (hc : clrThrown R) (hw : ∀ M1 M2, R M1 M2 → ∀ x, x < 2 → mz_i M1 (9, x) 2 = mz_i M2 (44, 0) x) : sim_waiting R := by
  intro M1 M2 a hl1 hl2 hR
  have hR' := hc M1 M2 hR
  refine pl_ses (fun h => ⟨fun h9 => absurd h9 (by decide), fun _ => ?_⟩) (fun h => ⟨fun _ => ?_, fun h9 => absurd rfl h9⟩)
  · obtain ⟨x, hx, hx2⟩ := i32_01 h
    refine ⟨x, hx, hx2, ?_⟩
    rintro M rfl
    exact mo_ses (fun _ => ⟨fun h9 => absurd h9 (by decide), fun _ => ⟨x, hx, hx2, hw _ _ hR' x hx2, hR'⟩⟩) (fun h9 => absurd h h9)
  · rintro M rfl
    exact mo_ses (fun h9 => absurd h9 h) (fun _ => ⟨fun _ => ⟨rfl, hR'⟩, fun h9 => absurd rfl h9⟩)
theorem sim_current_of {R : MzM → MzM → Prop} (hc : clrThrown R) (hw : ∀ M1 M2, R M1 M2 → ∀ x, x < 2 → mz_i M1 (6, 0) x = mz_i M2 (50, 0) x) : sim_current R := by
  intro M1 M2 a hl1 hl2 hR
  have hR' := hc M1 M2 hR
  refine pl_ses (fun h => ⟨fun h9 => absurd h9 (by decide), fun _ => ?_⟩) (fun h => ⟨fun _ => ?_, fun h9 => absurd rfl h9⟩)
  · obtain ⟨x, hx, hx2⟩ := i32_01 h
    refine ⟨x, hx, hx2, ?_⟩
    rintro M rfl
    exact mo_ses (fun _ => ⟨fun h9 => absurd h9 (by decide), fun _ => ⟨x, hx, hx2, hw _ _ hR' x hx2, hR'⟩⟩) (fun h9 => absurd h h9)
  · rintro M rfl
    exact mo_ses (fun h9 => absurd h9 h) (fun _ => ⟨fun _ => ⟨rfl, hR'⟩, fun h9 => absurd rfl h9⟩)
theorem sim_running_of {R : MzM → MzM → Prop} (hc : clrThrown R) (hw : ∀ M1 M2, R M1 M2 → ∀ x, x < 2 → mz_i M1 (16, x) 1 = mz_i M2 (53, 0) x) : sim_running R := by
  intro M1 M2 a hl1 hl2 hR
  have hR' := hc M1 M2 hR
  refine pl_ses (fun h => ⟨fun h9 => absurd h9 (by decide), fun _ => ?_⟩) (fun h => ⟨fun _ => ?_, fun h9 => absurd rfl h9⟩)
  · obtain ⟨x, hx, hx2⟩ := i32_01 h
    refine ⟨x, hx, hx2, ?_⟩
    rintro M rfl
    exact mo_ses (fun _ => ⟨fun h9 => absurd h9 (by decide), fun _ => ⟨x, hx, hx2, hw _ _ hR' x hx2, hR'⟩⟩) (fun h9 => absurd h h9)
  · rintro M rfl
    exact mo_ses (fun h9 => absurd h9 h) (fun _ => ⟨fun _ => ⟨rfl, hR'⟩, fun h9 => absurd rfl h9⟩)
