theorem pl_countIn {y1 : Int32} {M : MzM} {K : Int32 → MzM → Prop} (h : K (mzCntF (fun j => decide (¬ mz_i M (3, j) 1 = 0 ∧ mz_i M (3, j) 2 = y1)) 15 1 0) M) : wp_Store_countIn y1 M K := by
  have key : ∀ (s j : Nat) (c : Int32), j + s = 16 → K (mzCntF (fun j => decide (¬ mz_i M (3, j) 1 = 0 ∧ mz_i M (3, j) 2 = y1)) s j c) M → wp_Store_countIn_4 K (s + 1) y1 c (Int32.ofNat j) M := by
    intro s
    induction s with
    | zero =>
      intro j c hj hK
      have hj : j = 16 := by omega
      subst hj
      exact ⟨fun _ => hK, fun h9 => absurd (by decide) h9⟩
    | succ s ih =>
      intro j c hj hK
      obtain ⟨g1, g2⟩ := i32_of16 (show j < 16 by omega)
      have e : (Int32.ofNat j + 1 : Int32) = Int32.ofNat (j + 1) := (Int32.ofNat_add j 1).symm
      refine ⟨fun h9 => absurd h9 g1, fun _ => ⟨j, g2, by omega, fun h0 => ⟨fun _ => ?_, fun h9 => absurd rfl h9⟩, fun h0 => ⟨fun h1 => ⟨fun _ => ?_, fun h9 => absurd rfl h9⟩, fun h1 => ⟨fun h9 => absurd h9 (by decide), fun _ => ?_⟩⟩⟩⟩
      · show wp_Store_countIn_4 K (s + 1) y1 c (Int32.ofNat j + 1) M
        rw [e]
        refine ih (j + 1) c (by omega) ?_
        simpa [mzCntF, h0] using hK
      · show wp_Store_countIn_4 K (s + 1) y1 c (Int32.ofNat j + 1) M
        rw [e]
        refine ih (j + 1) c (by omega) ?_
        simpa [mzCntF, h0, h1] using hK
      · show wp_Store_countIn_4 K (s + 1) y1 (c + 1) (Int32.ofNat j + 1) M
        rw [e]
        refine ih (j + 1) (c + 1) (by omega) ?_
        simpa [mzCntF, h0, h1] using hK
  exact ⟨16, key 15 1 0 (by omega) h⟩
