/-- a name as a number -/
def nmOK (n : Nat) : Prop := nmB (n % 128) ∧ (n / 128 = 0 ∨ (nmB (n / 128 % 128) ∧ (n / 16384 = 0 ∨ (nmB (n / 16384 % 128) ∧ n / 2097152 = 0))))
theorem nmOK_nmE {v : Int32} {n : Nat} (hv : v.toInt = (n : Int)) (h : nmOK n) : nmE v := by
  have e := iofn hv
  unfold nmOK at h
  obtain ⟨h1, h2⟩ := h
  rcases h2 with h2 | ⟨h2, h3⟩
  · refine ⟨n % 128, 0, 0, h1, ?_, Or.inl ⟨rfl, rfl⟩⟩
    rw [e]
    congr 1
    omega
  · rcases h3 with h3 | ⟨h3, h4⟩
    · refine ⟨n % 128, n / 128 % 128, 0, h1, ?_, Or.inr ⟨h2, Or.inl rfl⟩⟩
      rw [e]
      congr 1
      omega
    · refine ⟨n % 128, n / 128 % 128, n / 16384 % 128, h1, ?_, Or.inr ⟨h2, Or.inr h3⟩⟩
      rw [e]
      congr 1
      omega
theorem pz_nameByte {v : Int32} {n : Nat} {K : Int32 → Prop} (hv : v.toInt = (n : Int)) (h1 : nmB n → K 1) (h0 : ¬ nmB n → K 0) : wz_PL_isNameByte v K := by
  unfold nmB at h1 h0
  have h97 : v < 97 ↔ (n : Int) < 97 := ilt (b := 97) (n := 97) hv rfl
  have h48 : v < 48 ↔ (n : Int) < 48 := ilt (b := 48) (n := 48) hv rfl
  have h57 : 57 < v ↔ 57 < (n : Int) := ilt (a := 57) (m := 57) rfl hv
  have h122 : v ≤ 122 ↔ (n : Int) ≤ 122 := ile (b := 122) (n := 122) hv rfl
  refine ⟨fun a => ?_, fun a => ?_⟩
  · have a' := h97.mp a
    refine ⟨fun b => h0 ?_, fun b => ⟨fun c => h0 ?_, fun c => h1 ?_⟩⟩
    · have b' := h48.mp b
      omega
    · have c' := h57.mp c
      omega
    · have b' : ¬ (n : Int) < 48 := fun q => b (h48.mpr q)
      have c' : ¬ 57 < (n : Int) := fun q => c (h57.mpr q)
      omega
  · have a' : ¬ (n : Int) < 97 := fun q => a (h97.mpr q)
    refine ⟨fun b => h1 ?_, fun b => ⟨fun c => h0 ?_, fun c => ⟨fun d => h0 ?_, fun d => h1 ?_⟩⟩⟩
    · have b' := h122.mp b
      omega
    · have c' := h48.mp c
      omega
    · have b' : ¬ (n : Int) ≤ 122 := fun q => b (h122.mpr q)
      have d' := h57.mp d
      omega
    · have d' : ¬ 57 < (n : Int) := fun q => d (h57.mpr q)
      omega
theorem mo_letter {v : Int32} {n : Nat} {M : MzM} {K : Int32 → MzM → Prop} (hv : v.toInt = (n : Int)) (h1 : nmB n → K 1 M) (h0 : ¬ nmB n → K 0 M) : wp_Mo_isLetter v M K := by
  unfold nmB at h1 h0
  have h97 : v < 97 ↔ (n : Int) < 97 := ilt (b := 97) (n := 97) hv rfl
  have h48 : v < 48 ↔ (n : Int) < 48 := ilt (b := 48) (n := 48) hv rfl
  have h57 : 57 < v ↔ 57 < (n : Int) := ilt (a := 57) (m := 57) rfl hv
  have h122 : v ≤ 122 ↔ (n : Int) ≤ 122 := ile (b := 122) (n := 122) hv rfl
  refine ⟨fun a => ?_, fun a => ?_⟩
  · have a' := h97.mp a
    refine ⟨fun b => h0 ?_, fun b => ⟨fun c => h0 ?_, fun c => h1 ?_⟩⟩
    · have b' := h48.mp b
      omega
    · have c' := h57.mp c
      omega
    · have b' : ¬ (n : Int) < 48 := fun q => b (h48.mpr q)
      have c' : ¬ 57 < (n : Int) := fun q => c (h57.mpr q)
      omega
  · have a' : ¬ (n : Int) < 97 := fun q => a (h97.mpr q)
    refine ⟨fun b => h1 ?_, fun b => ⟨fun c => h0 ?_, fun c => ⟨fun d => h0 ?_, fun d => h1 ?_⟩⟩⟩
    · have b' := h122.mp b
      omega
    · have c' := h48.mp c
      omega
    · have b' : ¬ (n : Int) ≤ 122 := fun q => b (h122.mpr q)
      have d' := h57.mp d
      omega
    · have d' : ¬ 57 < (n : Int) := fun q => d (h57.mpr q)
      omega
theorem pl_nameByte {v : Int32} {n : Nat} {M : MzM} {K : Int32 → MzM → Prop} (hv : v.toInt = (n : Int)) (h1 : nmB n → K 1 M) (h0 : ¬ nmB n → K 0 M) : wp_PL_isNameByte v M K := by
  unfold nmB at h1 h0
  have h97 : v < 97 ↔ (n : Int) < 97 := ilt (b := 97) (n := 97) hv rfl
  have h48 : v < 48 ↔ (n : Int) < 48 := ilt (b := 48) (n := 48) hv rfl
  have h57 : 57 < v ↔ 57 < (n : Int) := ilt (a := 57) (m := 57) rfl hv
  have h122 : v ≤ 122 ↔ (n : Int) ≤ 122 := ile (b := 122) (n := 122) hv rfl
  refine ⟨fun a => ?_, fun a => ?_⟩
  · have a' := h97.mp a
    refine ⟨fun b => h0 ?_, fun b => ⟨fun c => h0 ?_, fun c => h1 ?_⟩⟩
    · have b' := h48.mp b
      omega
    · have c' := h57.mp c
      omega
    · have b' : ¬ (n : Int) < 48 := fun q => b (h48.mpr q)
      have c' : ¬ 57 < (n : Int) := fun q => c (h57.mpr q)
      omega
  · have a' : ¬ (n : Int) < 97 := fun q => a (h97.mpr q)
    refine ⟨fun b => h1 ?_, fun b => ⟨fun c => h0 ?_, fun c => ⟨fun d => h0 ?_, fun d => h1 ?_⟩⟩⟩
    · have b' := h122.mp b
      omega
    · have c' := h48.mp c
      omega
    · have b' : ¬ (n : Int) ≤ 122 := fun q => b (h122.mpr q)
      have d' := h57.mp d
      omega
    · have d' : ¬ 57 < (n : Int) := fun q => d (h57.mpr q)
      omega
theorem pz_isName {v : Int32} {n : Nat} {K : Int32 → Prop} (hv : v.toInt = (n : Int)) (hn : 0 < n) (h1 : nmOK n → K 1) (h0 : ¬ nmOK n → K 0) : wz_PL_isName v K := by
  have lt := Int32.toInt_lt v
  have v0 : ¬ v ≤ 0 := fun q => by
    have q1 := (ile (n := 0) hv rfl).mp q
    omega
  have d1 : (v / 128).toInt = ((n / 128 : Nat) : Int) := idiv hv (n := 128) rfl
  have d2 : (v / 128 / 128).toInt = ((n / 128 / 128 : Nat) : Int) := idiv d1 (n := 128) rfl
  have d3 : (v / 128 / 128 / 128).toInt = ((n / 128 / 128 / 128 : Nat) : Int) := idiv d2 (n := 128) rfl
  have m0 := imod (c := 128) (n := 128) hv rfl
  have m1 := imod (c := 128) (n := 128) d1 rfl
  have m2 := imod (c := 128) (n := 128) d2 rfl
  have fin : ∀ (w : Int32) (k : Nat), w.toInt = (k : Int) → (k = 0 → K 1) → (¬ k = 0 → K 0) → ((v ≤ 0 → K 0) ∧ (¬ v ≤ 0 → ((¬ w = 0 → K 0) ∧ (w = 0 → K 1)))) := by
    intro w k hw k1 k0
    refine ⟨fun q => absurd q v0, fun _ => ⟨fun q => k0 (fun z => q ((ieq (n := 0) hw rfl).mpr (by omega))), fun q => k1 ?_⟩⟩
    have q1 := (ieq (n := 0) hw rfl).mp q
    omega
  unfold nmOK at h1 h0
  refine ⟨4, fun h9 => absurd h9 (by decide), fun _ => ⟨fun q => absurd q v0, fun _ => pz_nameByte m0 (fun b0 => ⟨fun _ => ?_, fun h9 => absurd h9 (by decide)⟩) (fun b0 => ⟨fun h9 => absurd rfl h9, fun _ => h0 (fun z => b0 z.1)⟩)⟩⟩
  refine ⟨fun h9 => absurd h9 (by decide), fun _ => ⟨fun q => fin _ _ d1 (fun z => h1 ⟨b0, Or.inl z⟩) (fun z => ?_), fun q => pz_nameByte m1 (fun b1 => ⟨fun _ => ?_, fun h9 => absurd h9 (by decide)⟩) (fun b1 => ⟨fun h9 => absurd rfl h9, fun _ => h0 (fun z => ?_)⟩)⟩⟩
  · have q1 := (ile (n := 0) d1 rfl).mp q
    omega
  · refine ⟨fun h9 => absurd h9 (by decide), fun _ => ⟨fun q2 => fin _ _ d2 (fun z => h1 ⟨b0, Or.inr ⟨b1, Or.inl (by omega)⟩⟩) (fun z => ?_), fun q2 => pz_nameByte m2 (fun b2 => ⟨fun _ => ?_, fun h9 => absurd h9 (by decide)⟩) (fun b2 => ⟨fun h9 => absurd rfl h9, fun _ => h0 (fun z => ?_)⟩)⟩⟩
    · have q1 := (ile (n := 0) d2 rfl).mp q2
      omega
    · have e16 : n / 128 / 128 = n / 16384 := by omega
      refine ⟨fun _ => fin _ _ d3 (fun z => h1 ⟨b0, Or.inr ⟨b1, Or.inr ⟨?_, by omega⟩⟩⟩) (fun z => h0 (fun w => ?_)), fun h9 => absurd (by decide) h9⟩
      · rw [← e16]
        exact b2
      · have q3 : ¬ (v / 128 / 128).toInt ≤ 0 := fun q => q2 ((ile (n := 0) rfl rfl).mpr q)
        rcases w.2 with w | ⟨_, w⟩
        · omega
        · rcases w with w | ⟨_, w⟩ <;> omega
    · have e16 : n / 128 / 128 = n / 16384 := by omega
      have q3 : ¬ (v / 128 / 128).toInt ≤ 0 := fun q => q2 ((ile (n := 0) rfl rfl).mpr q)
      rcases z.2 with w | ⟨_, w⟩
      · omega
      · rcases w with w | ⟨w, _⟩
        · omega
        · rw [← e16] at w
          exact b2 w
  · have q3 : ¬ (v / 128).toInt ≤ 0 := fun q4 => q ((ile (n := 0) rfl rfl).mpr q4)
    rcases z.2 with w | ⟨w, _⟩
    · omega
    · exact b1 w
theorem pz_isName0 {v : Int32} {K : Int32 → Prop} (hv : v ≤ 0) (h0 : K 0) : wz_PL_isName v K :=
  ⟨1, fun h9 => absurd h9 (by decide), fun _ => ⟨fun _ => ⟨fun _ => h0, fun h9 => absurd hv h9⟩, fun h9 => absurd hv h9⟩⟩
theorem mo_isName {v : Int32} {n : Nat} {M : MzM} {K : Int32 → MzM → Prop} (hv : v.toInt = (n : Int)) (hn : 0 < n) (h1 : nmOK n → K 1 M) (h0 : ¬ nmOK n → K 0 M) : wp_Mo_isName v M K := by
  have lt := Int32.toInt_lt v
  have v0 : ¬ v ≤ 0 := fun q => by
    have q1 := (ile (n := 0) hv rfl).mp q
    omega
  have d1 : (v / 128).toInt = ((n / 128 : Nat) : Int) := idiv hv (n := 128) rfl
  have d2 : (v / 16384).toInt = ((n / 16384 : Nat) : Int) := idiv hv (n := 16384) rfl
  have m0 := imod (c := 128) (n := 128) hv rfl
  have m1 := imod (c := 128) (n := 128) d1 rfl
  unfold nmOK at h1 h0
  refine ⟨fun q => absurd q v0, fun _ => ⟨fun hb => ?_, fun hb => h0 (fun z => ?_)⟩⟩
  · have hb' := (ilt (n := 2097152) hv rfl).mp hb
    have t50 : ¬ (n / 128 = 0) → nmB (n % 128) → wp_Mo_isName_50 K ((v / 128) - (v / 128) / 128 * 128) (v / 16384) M := by
      intro hz b0
      refine mo_letter m1 (fun b1 => ⟨fun h9 => absurd h9 (by decide), fun _ => ⟨fun q => h1 ⟨b0, Or.inr ⟨b1, Or.inl ?_⟩⟩, fun q => mo_letter d2 (fun b2 => ⟨fun h9 => absurd h9 (by decide), fun _ => h1 ⟨b0, Or.inr ⟨b1, Or.inr ⟨?_, by omega⟩⟩⟩⟩) (fun b2 => ⟨fun _ => h0 (fun z => ?_), fun h9 => absurd rfl h9⟩)⟩⟩) (fun b1 => ⟨fun _ => h0 (fun z => ?_), fun h9 => absurd rfl h9⟩)
      · have q1 := (ieq (n := 0) d2 rfl).mp q
        omega
      · have e : n / 16384 % 128 = n / 16384 := by omega
        rw [e]
        exact b2
      · have q1 : ¬ ((n / 16384 : Nat) : Int) = 0 := fun z => q ((ieq (n := 0) d2 rfl).mpr z)
        have e : n / 16384 % 128 = n / 16384 := by omega
        rcases z.2 with w | ⟨_, w⟩
        · omega
        · rcases w with w | ⟨w, _⟩
          · omega
          · rw [e] at w
            exact b2 w
      · rcases z.2 with w | ⟨w, _⟩
        · exact hz w
        · exact b1 w
    refine mo_letter m0 (fun b0 => ⟨fun h9 => absurd h9 (by decide), fun _ => ⟨fun q => t50 (fun z => q ((ieq (n := 0) m1 rfl).mpr (by omega))) b0, fun q => ⟨fun q2 => h1 ⟨b0, Or.inl ?_⟩, fun q2 => t50 (fun z => q2 ((ieq (n := 0) d2 rfl).mpr (by omega))) b0⟩⟩⟩) (fun b0 => ⟨fun _ => h0 (fun z => b0 z.1), fun h9 => absurd rfl h9⟩)
    have q1 := (ieq (n := 0) m1 rfl).mp q
    have q3 := (ieq (n := 0) d2 rfl).mp q2
    omega
  · have hb' : ¬ (n : Int) < 2097152 := fun q => hb ((ilt (n := 2097152) hv rfl).mpr q)
    rcases z.2 with w | ⟨_, w⟩
    · omega
    · rcases w with w | ⟨_, w⟩ <;> omega
