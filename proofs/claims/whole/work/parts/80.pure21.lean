def flB (seed step : Int32) (i : Nat) : Int32 := (seed + Int32.ofNat i * step) &&& 255
def flL (seed step : Int32) (n : Nat) : List Int32 := (List.range n).map (flB seed step)
theorem flL_succ (s t : Int32) (n : Nat) : flL s t (n + 1) = flL s t n ++ [flB s t n] := by
  unfold flL
  rw [List.range_succ, List.map_append]
  rfl
theorem flL_len (s t : Int32) (n : Nat) : (flL s t n).length = n := by simp [flL]
theorem flL_at {s t : Int32} {n j : Nat} (h : j < n) : (flL s t n)[j]? = some (flB s t j) := by simp [flL, h]
theorem fl_next (s t : Int32) (i : Nat) : s + Int32.ofNat i * t + t = s + Int32.ofNat (i + 1) * t := by
  rw [Int32.ofNat_add, Int32.add_mul, Int32.add_assoc]
  congr 1
  congr 1
  exact (Int32.one_mul t).symm
theorem pl_fill_loop {k n : Nat} {s t y2 : Int32} {m : MzM} {L : MzV} {K : Int32 → MzM → Prop} (hk3 : k < 3) (hy : y2.toInt = (n : Int)) (hn : n ≤ 24) (hk : ∀ M', A1 M' m (lu L 21 k (flL s t n)) → K 1 M') : ∀ (r i : Nat) (M : MzM), i + r = n → A1 M m (lu L 21 k (flL s t i)) → wp_PL_fill_46 K (r + 1) y2 s t k (Int32.ofNat i) M := by
  intro r
  induction r with
  | zero =>
    intro i M hi h
    have hi' : i = n := by omega
    subst hi'
    exact ⟨hk3, fun _ => hk M h, fun h9 => absurd ((ile hy (itn (n := i) (by omega))).mpr (by omega)) h9⟩
  | succ r ih =>
    intro i M hi h
    have ei : (Int32.ofNat i).toInt = (i : Int) := itn (by omega)
    refine ⟨hk3, fun h9 => absurd ((ile hy ei).mp h9) (by omega), fun _ => pl_adds h (fun M' h' => ?_)⟩
    have es : Int32.ofNat i + 1 = Int32.ofNat (i + 1) := i32_succ rfl
    rw [es]
    refine ih (i + 1) M' (by omega) ?_
    rw [lu_same, lu_lu] at h'
    have er : row24 (flL s t i) ((s + Int32.ofNat i * t) &&& 255) = flL s t (i + 1) := by
      rw [flL_succ]
      unfold row24
      rw [if_pos (by rw [flL_len]; omega)]
      rfl
    rw [er] at h'
    exact h'
theorem mo_fill_loop {k n : Nat} {a s t y2 : Int32} {M0 m : MzM} {L : MzV} {K : Int32 → MzM → Prop} (ha : a.toInt = (k : Int)) (hk3 : k < 3) (hy : y2.toInt = (n : Int)) (hn : n ≤ 24) (h0 : A2 M0 m L) (hk : ∀ M', A2 M' m (lu L 60 k (flL s t n)) → K 1 M') : ∀ (r i : Nat) (M : MzM), i + r = n → (∀ (p : MzL) (q : Nat), ¬ (p = (60, 0) ∧ 24 * k ≤ q ∧ q < 24 * k + i) → mz_i M p q = mz_i M0 p q) → (∀ j : Nat, j < i → mz_i M (60, 0) (24 * k + j) = flB s t j) → wp_Mo_fill_39 K (r + 1) a y2 t (s + Int32.ofNat i * t) (Int32.ofNat i) M := by
  have e24 : ((24 : Int32) * a).toInt = 24 * (k : Int) := imul (m := 24) rfl ha (by omega) (by omega)
  intro r
  induction r with
  | zero =>
    intro i M hi h1 h2
    have hi' : i = n := by omega
    subst hi'
    refine ⟨fun _ => ⟨k, ha, hk3, ?_⟩, fun h9 => absurd ((ile hy (itn (n := i) (by omega))).mpr (by omega)) h9⟩
    rintro _ rfl
    refine hk _ ?_
    have ne : ∀ (p q : Nat), p ≠ 59 → ¬ (p = 60 ∧ 24 * k ≤ q ∧ q < 24 * k + i) → mz_i (mz_si M (59, 0) k y2) (p, 0) q = mz_i M0 (p, 0) q := by
      intro p q hp hq
      rw [mz_i_si, if_neg (fun z => hp (congrArg Prod.fst z.1))]
      exact h1 (p, 0) q (fun z => hq ⟨congrArg Prod.fst z.1, z.2⟩)
    refine ⟨fun t' q ht => ?_, fun t' a' c' n' i' ht' hi' => ?_⟩
    · have n1 : t' ≠ 59 := by rintro rfl; exact absurd ht (by decide)
      have n2 : t' ≠ 60 := by rintro rfl; exact absurd ht (by decide)
      rw [ne t' q n1 (fun z => n2 z.1)]
      exact h0.1 t' q ht
    · obtain ⟨d1, d2, d3⟩ := h0.2 t' a' c' n' i' ht' hi'
      by_cases h60 : t' = 60
      · subst h60
        have hs : some (a', c', n') = some (59, 24, 3) := ht'.symm
        simp only [Option.some.injEq, Prod.mk.injEq] at hs
        obtain ⟨rfl, rfl, rfl⟩ := hs
        by_cases hik : i' = k
        · subst hik
          rw [lu_same, flL_len]
          refine ⟨?_, hn, fun j hj => ?_⟩
          · rw [mz_i_si, if_pos ⟨rfl, rfl⟩]
            exact iofn hy
          · rw [flL_at hj, mz_i_si, if_neg (fun z => pne (by decide) z.1), h2 j hj]
        · rw [lu_ne L _ (fun z => hik z.2)]
          refine ⟨?_, d2, fun j hj => ?_⟩
          · rw [mz_i_si, if_neg (fun z => hik z.2), h1 (59, 0) i' (fun z => pne (by decide) z.1)]
            exact d1
          · rw [d3 j hj, ne 60 _ (by decide) (fun z => by omega)]
      · rw [lu_ne L _ (fun z => h60 z.1)]
        have n3 : a' ≠ 59 := fun z => h60 (tb2_inj (t := 60) (a := 59) (c := 24) (n := 3) rfl ht' z)
        have n4 : t' ≠ 59 := tb2_cell (t' := 60) (a' := 59) (c' := 24) (n' := 3) ht' rfl
        have n5 : a' ≠ 60 := fun z => tb2_cell (t := 60) (a := 59) (c := 24) (n := 3) rfl ht' z.symm
        exact ⟨(ne a' i' n3 (fun z => n5 z.1)).trans d1, d2, fun j hj => (d3 j hj).trans (congrArg some (ne t' _ n4 (fun z => h60 z.1)).symm)⟩
  | succ r ih =>
    intro i M hi h1 h2
    have ei : (Int32.ofNat i).toInt = (i : Int) := itn (by omega)
    have e6 : (((24 : Int32) * a) + Int32.ofNat i).toInt = ((24 * k + i : Nat) : Int) := by rw [iadd e24 ei (by omega) (by omega)]; omega
    refine ⟨fun h9 => absurd ((ile hy ei).mp h9) (by omega), fun _ => ⟨24 * k + i, e6, by omega, ?_⟩⟩
    rintro _ rfl
    have es : Int32.ofNat i + 1 = Int32.ofNat (i + 1) := i32_succ rfl
    rw [es, fl_next]
    refine ih (i + 1) _ (by omega) (fun p q hp => ?_) (fun j hj => ?_)
    · rw [mz_i_si, if_neg (fun z => hp ⟨z.1, by omega, by omega⟩)]
      exact h1 p q (fun z => hp ⟨z.1, z.2.1, by omega⟩)
    · rw [mz_i_si]
      by_cases hji : j = i
      · rw [if_pos ⟨rfl, by omega⟩, hji]
        rfl
      · rw [if_neg (fun z => hji (by have := z.2; omega))]
        exact h2 j (by omega)
theorem ee_shelf {m1 m2 : MzM} {L1 L2 : MzV} (hE : EE m1 L1 m2 L2) (k : Nat) (l : List Int32) : EE m1 (lu L1 21 k l) m2 (lu L2 60 k l) := by
  refine ⟨hE.1, hE.2.1, hE.2.2.1, hE.2.2.2.1, hE.2.2.2.2.1, hE.2.2.2.2.2.1, hE.2.2.2.2.2.2.1, hE.2.2.2.2.2.2.2.1, fun k' hk' => ?_⟩
  by_cases hkk : k' = k
  · subst hkk
    rw [lu_same, lu_same]
  · rw [lu_ne L1 _ (fun z => hkk z.2), lu_ne L2 _ (fun z => hkk z.2)]
    exact hE.2.2.2.2.2.2.2.2 k' hk'
theorem rr_fill : sim_fill RR := by
  intro M1 M2 a1 a2 a3 a4 hl1 hl2 hR
  have ok : ((0 : Int32) = 0) ∧ RR M1 (mz_si M2 (30, 0) 1 0) := ⟨rfl, rr_clr M1 M2 hR⟩
  obtain ⟨m1, L1, m2, L2, h1, h2, hE⟩ := hR
  have eon : mz_i M1 (22, 0) 2 = mz_i m2 (30, 0) 38 := (h1.1 _ _ rfl).trans hE.2.2.2.2.2.2.1.1.1
  have eon2 : mz_i (mz_si M2 (30, 0) 1 0) (30, 0) 38 = mz_i m2 (30, 0) 38 := h2.1 30 38 rfl
  have bad : (a1 < 0 ∨ 3 ≤ a1 ∨ a2 < 0 ∨ 24 < a2 ∨ ¬ mz_i m2 (30, 0) 38 = 0) → wp_Mo_fill a1 a2 a3 a4 M2 (fun w M2' => (0 : Int32) = w ∧ RR M1 M2') := by
    rintro hb M rfl
    refine ⟨fun _ => ok, fun g1 => ⟨fun _ => ok, fun g2 => ⟨fun _ => ok, fun g3 => ⟨fun _ => ok, fun g4 => ⟨fun g5 => ?_, fun _ => ok⟩⟩⟩⟩⟩
    rw [eon2] at g5
    rcases hb with b | b | b | b | b
    · exact absurd b g1
    · refine absurd ?_ g2
      have q := Int32.le_iff_toInt_le.mp b
      refine Int32.lt_iff_toInt_lt.mpr ?_
      have q3 : (3 : Int32).toInt = 3 := rfl
      have q2 : (2 : Int32).toInt = 2 := rfl
      omega
    · exact absurd b g3
    · exact absurd b g4
    · exact absurd g5 b
  refine ⟨fun g1 => ⟨fun _ => bad (Or.inl g1), fun h9 => absurd rfl h9⟩, fun g1 => ⟨fun g2 => ⟨fun _ => bad (Or.inr (Or.inl g2)), fun h9 => absurd rfl h9⟩, fun g2 => ⟨fun h9 => absurd h9 (by decide), fun _ => ⟨fun g3 => bad (Or.inr (Or.inr (Or.inl g3))), fun g3 => ⟨fun g4 => bad (Or.inr (Or.inr (Or.inr (Or.inl g4)))), fun g4 => ⟨fun g5 => ?_, fun g5 => bad (Or.inr (Or.inr (Or.inr (Or.inr (fun z => g5 (eon.trans z))))))⟩⟩⟩⟩⟩⟩
  have q3 : (3 : Int32).toInt = 3 := rfl
  have q24 : (24 : Int32).toInt = 24 := rfl
  have ha3 : a1.toInt < ((3 : Nat) : Int) := by
    have q0 : ¬ (3 : Int32).toInt ≤ a1.toInt := fun q => g2 (Int32.le_iff_toInt_le.mpr q)
    omega
  have hn24 : a2.toInt < ((25 : Nat) : Int) := by
    have q0 : ¬ (24 : Int32).toInt < a2.toInt := fun q => g4 (Int32.lt_iff_toInt_lt.mpr q)
    omega
  obtain ⟨k, hk, hk3⟩ := i32_nat (n := 3) g1 ha3
  obtain ⟨n, hn, hn25⟩ := i32_nat (n := 25) g3 hn24
  refine ⟨k, hk, hk3, ?_⟩
  rintro _ rfl
  have h1c := h1.clr (t := 21) (i := k) rfl
  refine ⟨n + 1, pl_fill_loop (L := L1) hk3 hn (by omega) (fun M1' h1' => ?_) n 0 _ (by omega) h1c⟩
  rintro M rfl
  have h2' : A2 (mz_si M2 (30, 0) 1 0) (mz_si m2 (30, 0) 1 0) L2 := h2.si (t := 30) rfl
  refine ⟨fun h9 => absurd h9 g1, fun _ => ⟨fun h9 => absurd h9 ?_, fun _ => ⟨fun h9 => absurd h9 g3, fun _ => ⟨fun h9 => absurd h9 g4, fun _ => ⟨fun _ => ⟨n + 1, ?_⟩, fun h9 => absurd (eon2.trans (eon.symm.trans g5)) h9⟩⟩⟩⟩⟩
  · intro h9
    have q2 : (2 : Int32).toInt = 2 := rfl
    have q := Int32.lt_iff_toInt_lt.mp h9
    omega
  · have hl := mo_fill_loop (K := fun w M2' => (1 : Int32) = w ∧ RR M1' M2') (s := a3) (t := a4) (M0 := mz_si M2 (30, 0) 1 0) hk hk3 hn (by omega) h2' (fun M2' h2'' => ⟨rfl, _, _, _, _, h1', h2'', ee_shelf hE.thr k _⟩) n 0 _ (by omega) (fun _ _ _ => rfl) (fun j hj => absurd hj (by omega))
    have e0 : a3 + Int32.ofNat 0 * a4 = a3 := by
      rw [show Int32.ofNat 0 = 0 from rfl, Int32.zero_mul, Int32.add_zero]
    rw [e0] at hl
    exact hl
