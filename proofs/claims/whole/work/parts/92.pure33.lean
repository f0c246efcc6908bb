/-! names in directories, and the way along a path -/
def chF (p : Nat → Bool) : Nat → Nat → Int32
  | 0, _ => -1
  | s + 1, j => if p j = true then Int32.ofNat j else chF p s (j + 1)
theorem chF_congr {p q : Nat → Bool} : ∀ (s j : Nat), (∀ i, j ≤ i → i < j + s → p i = q i) → chF p s j = chF q s j
  | 0, _, _ => rfl
  | s + 1, j, h => by
    show (if p j = true then Int32.ofNat j else chF p s (j + 1)) = (if q j = true then Int32.ofNat j else chF q s (j + 1))
    rw [h j (Nat.le_refl _) (by omega), chF_congr s (j + 1) (fun i h1 h2 => h i (by omega) (by omega))]
theorem chF_spec {p : Nat → Bool} : ∀ (s j : Nat), chF p s j = -1 ∨ ∃ i : Nat, j ≤ i ∧ i < j + s ∧ p i = true ∧ chF p s j = Int32.ofNat i
  | 0, _ => Or.inl rfl
  | s + 1, j => by
    by_cases hp : p j = true
    · refine Or.inr ⟨j, Nat.le_refl _, by omega, hp, ?_⟩
      show (if p j = true then Int32.ofNat j else chF p s (j + 1)) = _
      rw [if_pos hp]
    · have e : chF p (s + 1) j = chF p s (j + 1) := by
        show (if p j = true then Int32.ofNat j else chF p s (j + 1)) = _
        rw [if_neg hp]
      rw [e]
      rcases chF_spec (p := p) s (j + 1) with h | ⟨i, h1, h2, h3, h4⟩
      · exact Or.inl h
      · exact Or.inr ⟨i, by omega, by omega, h3, h4⟩
/-- the child of the directory d with the name nm, as the reference finds it -/
def chd (m2 : MzM) (d nm : Int32) : Int32 := chF (fun j => decide (¬ mz_i m2 (32, 0) j = 0 ∧ mz_i m2 (34, 0) j = d ∧ mz_i m2 (35, 0) j = nm)) 15 1
theorem mo_child {d nm : Int32} {M m : MzM} {L : MzV} {K : Int32 → MzM → Prop} (h : A2 M m L) (hk : K (chd m d nm) M) : wp_Mo_child d nm M K := by
  have key : ∀ (s j : Nat), j + s = 16 → K (chF (fun j => decide (¬ mz_i m (32, 0) j = 0 ∧ mz_i m (34, 0) j = d ∧ mz_i m (35, 0) j = nm)) s j) M → wp_Mo_child_2 K (s + 1) d nm (Int32.ofNat j) M := by
    intro s
    induction s with
    | zero =>
      intro j hj hK
      have hj' : j = 16 := by omega
      subst hj'
      exact ⟨fun _ => hK, fun h9 => absurd (by decide) h9⟩
    | succ s ih =>
      intro j hj hK
      obtain ⟨g1, g2⟩ := i32_of16 (show j < 16 by omega)
      have es : Int32.ofNat j + 1 = Int32.ofNat (j + 1) := i32_succ rfl
      have nx : ¬ (¬ mz_i m (32, 0) j = 0 ∧ mz_i m (34, 0) j = d ∧ mz_i m (35, 0) j = nm) → wp_Mo_child_39 (wp_Mo_child_2 K (s + 1)) K d nm (Int32.ofNat j) M := by
        intro hn
        show wp_Mo_child_2 K (s + 1) d nm (Int32.ofNat j + 1) M
        rw [es]
        refine ih (j + 1) (by omega) ?_
        have e : chF (fun j => decide (¬ mz_i m (32, 0) j = 0 ∧ mz_i m (34, 0) j = d ∧ mz_i m (35, 0) j = nm)) (s + 1) j = chF (fun j => decide (¬ mz_i m (32, 0) j = 0 ∧ mz_i m (34, 0) j = d ∧ mz_i m (35, 0) j = nm)) s (j + 1) := if_neg (by rw [decide_eq_true_iff]; exact hn)
        rw [e] at hK
        exact hK
      have f1 := h.1 32 j rfl
      have f2 := h.1 34 j rfl
      have f3 := h.1 35 j rfl
      refine ⟨fun h9 => absurd h9 g1, fun _ => ⟨j, g2, by omega, fun z1 => nx (fun q => q.1 (f1.symm.trans z1)), fun z1 => ⟨j, g2, by omega, fun z2 => nx (fun q => z2 (f2.trans q.2.1)), fun z2 => ⟨j, g2, by omega, fun z3 => nx (fun q => z3 (f3.trans q.2.2)), fun z3 => ?_⟩⟩⟩⟩
      have e : chF (fun j => decide (¬ mz_i m (32, 0) j = 0 ∧ mz_i m (34, 0) j = d ∧ mz_i m (35, 0) j = nm)) (s + 1) j = Int32.ofNat j := if_pos (by rw [decide_eq_true_iff]; exact ⟨fun q => z1 (f1.trans q), f2.symm.trans z2, f3.symm.trans z3⟩)
      rw [e] at hK
      exact hK
  exact ⟨16, key 15 1 (by omega) hk⟩
theorem pl_childNamed {d nm : Int32} {M m1 m2 : MzM} {L L1 L2 : MzV} {K : Int32 → MzM → Prop} (h : A1 M m1 L) (hN : ∀ n : Nat, n < 16 → nodeE m1 L1 m2 L2 n) (hk : K (chd m2 d nm) M) : wp_Store_childNamed d nm M K := by
  have eq : ∀ j : Nat, 1 ≤ j → j < 16 → ((¬ mz_i m1 (3, j) 1 = 0 ∧ mz_i m1 (3, j) 2 = d ∧ mz_i m1 (3, j) 3 = nm) ↔ (¬ mz_i m2 (32, 0) j = 0 ∧ mz_i m2 (34, 0) j = d ∧ mz_i m2 (35, 0) j = nm)) := by
    intro j h1 h2
    have n := hN j h2
    rw [kd0 n]
    by_cases z : mz_i m2 (32, 0) j = 0
    · exact ⟨fun q => absurd z q.1, fun q => absurd z q.1⟩
    · have z1 := (z01 n.1).mp z
      rw [(n.2.2.2.1 z1 (by omega)).1, n.2.2.2.2.1 z1]
  have key : ∀ (s j : Nat), j + s = 16 → 1 ≤ j → K (chF (fun j => decide (¬ mz_i m2 (32, 0) j = 0 ∧ mz_i m2 (34, 0) j = d ∧ mz_i m2 (35, 0) j = nm)) s j) M → wp_Store_childNamed_2 K (s + 1) d nm (Int32.ofNat j) M := by
    intro s
    induction s with
    | zero =>
      intro j hj _ hK
      have hj' : j = 16 := by omega
      subst hj'
      exact ⟨fun _ => hK, fun h9 => absurd (by decide) h9⟩
    | succ s ih =>
      intro j hj h1j hK
      obtain ⟨g1, g2⟩ := i32_of16 (show j < 16 by omega)
      have es : Int32.ofNat j + 1 = Int32.ofNat (j + 1) := i32_succ rfl
      have nx : ¬ (¬ mz_i m1 (3, j) 1 = 0 ∧ mz_i m1 (3, j) 2 = d ∧ mz_i m1 (3, j) 3 = nm) → wp_Store_childNamed_36 (wp_Store_childNamed_2 K (s + 1)) K d nm (Int32.ofNat j) M := by
        intro hn
        rw [eq j h1j (by omega)] at hn
        show wp_Store_childNamed_2 K (s + 1) d nm (Int32.ofNat j + 1) M
        rw [es]
        refine ih (j + 1) (by omega) (by omega) ?_
        have e : chF (fun j => decide (¬ mz_i m2 (32, 0) j = 0 ∧ mz_i m2 (34, 0) j = d ∧ mz_i m2 (35, 0) j = nm)) (s + 1) j = chF (fun j => decide (¬ mz_i m2 (32, 0) j = 0 ∧ mz_i m2 (34, 0) j = d ∧ mz_i m2 (35, 0) j = nm)) s (j + 1) := if_neg (by rw [decide_eq_true_iff]; exact hn)
        rw [e] at hK
        exact hK
      have f1 := h.1 (3, j) 1 rfl
      have f2 := h.1 (3, j) 2 rfl
      have f3 := h.1 (3, j) 3 rfl
      refine ⟨fun h9 => absurd h9 g1, fun _ => ⟨j, g2, by omega, fun z1 => ⟨fun _ => nx (fun q => q.1 (f1.symm.trans z1)), fun h9 => absurd rfl h9⟩, fun z1 => ⟨fun z2 => ⟨fun _ => nx (fun q => z2 (f2.trans q.2.1)), fun h9 => absurd rfl h9⟩, fun z2 => ⟨fun h9 => absurd h9 (by decide), fun _ => ⟨j, g2, by omega, fun z3 => nx (fun q => z3 (f3.trans q.2.2)), fun z3 => ?_⟩⟩⟩⟩⟩
      have hy := (eq j h1j (by omega)).mp ⟨fun q => z1 (f1.trans q), f2.symm.trans z2, f3.symm.trans z3⟩
      have e : chF (fun j => decide (¬ mz_i m2 (32, 0) j = 0 ∧ mz_i m2 (34, 0) j = d ∧ mz_i m2 (35, 0) j = nm)) (s + 1) j = Int32.ofNat j := if_pos (by rw [decide_eq_true_iff]; exact hy)
      rw [e] at hK
      exact hK
  exact ⟨16, key 15 1 (by omega) (by omega) hk⟩
