def mzCntF (p : Nat → Bool) : Nat → Nat → Int32 → Int32
  | 0, _, c => c
  | s + 1, j, c => mzCntF p s (j + 1) (if p j = true then c + 1 else c)
theorem mzCntF_congr {p q : Nat → Bool} : ∀ (s j : Nat) (c : Int32), (∀ i, j ≤ i → i < j + s → p i = q i) → mzCntF p s j c = mzCntF q s j c
  | 0, _, _, _ => rfl
  | s + 1, j, c, h => by
    show mzCntF p s (j + 1) _ = mzCntF q s (j + 1) _
    rw [h j (Nat.le_refl _) (by omega)]
    exact mzCntF_congr s (j + 1) _ (fun i h1 h2 => h i (by omega) (by omega))
theorem i32_of16 {j : Nat} (h : j < 16) : ¬ (16 : Int32) ≤ Int32.ofNat j ∧ (Int32.ofNat j).toInt = (j : Int) := by
  have h2 : (Int32.ofNat j).toInt = (j : Int) := Int32.toInt_ofNat_of_lt (by omega)
  refine ⟨fun q => ?_, h2⟩
  have q1 := Int32.le_iff_toInt_le.mp q
  have g16 : (16 : Int32).toInt = 16 := rfl
  omega
theorem mo_inside {y1 : Int32} {M : MzM} {K : Int32 → MzM → Prop} (h : K (mzCntF (fun j => decide (¬ mz_i M (32, 0) j = 0 ∧ mz_i M (34, 0) j = y1)) 15 1 0) M) : wp_Mo_inside y1 M K := by
  have key : ∀ (s j : Nat) (c : Int32), j + s = 16 → K (mzCntF (fun j => decide (¬ mz_i M (32, 0) j = 0 ∧ mz_i M (34, 0) j = y1)) s j c) M → wp_Mo_inside_4 K (s + 1) y1 c (Int32.ofNat j) M := by
    intro s
    induction s with
    | zero =>
      intro j c hj hK
      have hj : j = 16 := by omega
      subst hj
      exact ⟨fun _ => hK, fun h9 => absurd (by decide) h9⟩
    | succ s ih =>
      intro j c hj hK
      obtain ⟨g1, g2⟩ := i32_of16 (show j < 16 by omega)
      have e : (Int32.ofNat j + 1 : Int32) = Int32.ofNat (j + 1) := (Int32.ofNat_add j 1).symm
      refine ⟨fun h9 => absurd h9 g1, fun _ => ⟨j, g2, by omega, fun h0 => ?_, fun h0 => ⟨j, g2, by omega, fun h1 => ?_, fun h1 => ?_⟩⟩⟩
      · show wp_Mo_inside_4 K (s + 1) y1 c (Int32.ofNat j + 1) M
        rw [e]
        refine ih (j + 1) c (by omega) ?_
        simpa [mzCntF, h0] using hK
      · show wp_Mo_inside_4 K (s + 1) y1 c (Int32.ofNat j + 1) M
        rw [e]
        refine ih (j + 1) c (by omega) ?_
        simpa [mzCntF, h0, h1] using hK
      · show wp_Mo_inside_4 K (s + 1) y1 (c + 1) (Int32.ofNat j + 1) M
        rw [e]
        refine ih (j + 1) (c + 1) (by omega) ?_
        simpa [mzCntF, h0, h1] using hK
  exact ⟨16, key 15 1 0 (by omega) h⟩
