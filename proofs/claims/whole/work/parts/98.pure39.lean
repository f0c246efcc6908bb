/-- a digit -/
def dgC (c : Int32) : Prop := 48 ≤ c.toInt ∧ c.toInt ≤ 57
/-- the argument, from b on, tells the number k in one or two digits -/
def numP (l : List Int32) (b k : Nat) : Prop := (l.length = b + 1 ∧ dgC (ix l b) ∧ (k : Int) = (ix l b).toInt - 48) ∨ (l.length = b + 2 ∧ dgC (ix l b) ∧ dgC (ix l (b + 1)) ∧ (k : Int) = 10 * ((ix l b).toInt - 48) + ((ix l (b + 1)).toInt - 48))
theorem numP_uniq {l : List Int32} {b k k' : Nat} (h : numP l b k) (h' : numP l b k') : k = k' := by
  unfold numP at h h'
  omega
theorem pl_argumentNumber {x cl : Nat} {M m : MzM} {L : MzV} {K : Int32 → MzM → Prop} (h : A1 M m L) (hc : mz_i m (12, x) 6 = Int32.ofNat cl) (hcl : cl ≤ (L 13 x).length) (h1 : ∀ k : Nat, k ≤ 99 → numP (L 13 x) (cl + 1) k → K (Int32.ofNat k) M) (h0 : (∀ k : Nat, ¬ numP (L 13 x) (cl + 1) k) → K (-1) M) : wp_Lin_argumentNumber x M K := by
  obtain ⟨e1, e2, e3⟩ := h.line x
  have e6 : mz_i M (12, x) 6 = Int32.ofNat cl := (h.1 _ _ rfl).trans hc
  have c1 : mz_i M (12, x) 6 + 1 = Int32.ofNat (cl + 1) := i32_succ e6
  have tc : (Int32.ofNat (cl + 1)).toInt = ((cl + 1 : Nat) : Int) := itn (by omega)
  have tc2 : (Int32.ofNat (cl + 2)).toInt = ((cl + 2 : Nat) : Int) := itn (by omega)
  have tc3 : (Int32.ofNat (cl + 3)).toInt = ((cl + 3 : Nat) : Int) := itn (by omega)
  have td : (mz_i M (12, x) 2 - Int32.ofNat (cl + 1)).toInt = ((L 13 x).length : Int) - ((cl + 1 : Nat) : Int) := isub e1 tc (by omega) (by omega)
  have s1 : Int32.ofNat (cl + 1) + 1 = Int32.ofNat (cl + 2) := i32_succ rfl
  have s2 : Int32.ofNat (cl + 2) + 1 = Int32.ofNat (cl + 3) := i32_succ rfl
  unfold wp_Lin_argumentNumber
  rw [c1]
  refine ⟨fun q => h0 (fun k z => ?_), fun q => ⟨fun q2 => ?_, fun q2 => h0 (fun k z => ?_)⟩⟩
  · have q1 := (ilt (n := 1) td rfl).mp q
    unfold numP at z
    omega
  · have q1 : ¬ ((L 13 x).length : Int) - ((cl + 1 : Nat) : Int) < 1 := fun z => q ((ilt (n := 1) td rfl).mpr z)
    have q3 := (ile (n := 2) td rfl).mp q2
    -- a byte that is no digit
    have t48 : ∀ c : Int32, c < 48 ↔ c.toInt < 48 := fun c => ilt (n := 48) rfl rfl
    have t57 : ∀ c : Int32, c ≤ 57 ↔ c.toInt ≤ 57 := fun c => ile (n := 57) rfl rfl
    have ev : ∀ (acc c : Int32) (A : Nat), acc.toInt = (A : Int) → A ≤ 9 → dgC c → ((acc * 10 + c) - 48).toInt = 10 * (A : Int) + (c.toInt - 48) := by
      intro acc c A hA hA9 hd
      unfold dgC at hd
      have g1 : (acc * 10).toInt = (A : Int) * 10 := imul (n := 10) hA rfl (by omega) (by omega)
      have g2 := iadd (b := c) g1 rfl (by omega) (by omega)
      rw [isub (b := 48) (n := 48) g2 rfl (by omega) (by omega)]
      omega
    have hcs : (L 13 x).length = cl + 2 ∨ (L 13 x).length = cl + 3 := by omega
    rcases hcs with hl | hl
    · refine ⟨2, fun z => absurd ((ile e1 tc).mp z) (by omega), fun _ => ⟨cl + 1, tc, by omega, ?_⟩⟩
      rw [e3 (cl + 1) (by omega)]
      refine ⟨fun z => h0 (fun k w => ?_), fun z => ⟨cl + 1, tc, by omega, ?_⟩⟩
      · have z1 := (t48 _).mp z
        unfold numP dgC at w
        omega
      · rw [e3 (cl + 1) (by omega)]
        have z1 : ¬ (ix (L 13 x) (cl + 1)).toInt < 48 := fun y => z ((t48 _).mpr y)
        refine ⟨fun z2 => ⟨cl + 1, tc, by omega, ?_⟩, fun z2 => h0 (fun k w => ?_)⟩
        · have z3 := (t57 _).mp z2
          rw [e3 (cl + 1) (by omega), s1]
          have hv := ev 0 (ix (L 13 x) (cl + 1)) 0 rfl (by omega) ⟨by omega, by omega⟩
          have hv' : ((0 * 10 + ix (L 13 x) (cl + 1)) - 48 : Int32).toInt = ((((ix (L 13 x) (cl + 1)).toInt - 48).toNat : Nat) : Int) := by rw [hv]; omega
          refine ⟨fun _ => ?_, fun y => absurd ((ile e1 tc2).mpr (by omega)) y⟩
          rw [iofn hv']
          refine h1 _ (by omega) (Or.inl ⟨by omega, ⟨by omega, by omega⟩, by omega⟩)
        · have z3 : ¬ (ix (L 13 x) (cl + 1)).toInt ≤ 57 := fun y => z2 ((t57 _).mpr y)
          unfold numP dgC at w
          omega
    · refine ⟨3, fun z => absurd ((ile e1 tc).mp z) (by omega), fun _ => ⟨cl + 1, tc, by omega, ?_⟩⟩
      rw [e3 (cl + 1) (by omega)]
      refine ⟨fun z => h0 (fun k w => ?_), fun z => ⟨cl + 1, tc, by omega, ?_⟩⟩
      · have z1 := (t48 _).mp z
        unfold numP dgC at w
        omega
      · rw [e3 (cl + 1) (by omega)]
        have z1 : ¬ (ix (L 13 x) (cl + 1)).toInt < 48 := fun y => z ((t48 _).mpr y)
        refine ⟨fun z2 => ⟨cl + 1, tc, by omega, ?_⟩, fun z2 => h0 (fun k w => ?_)⟩
        · have z3 := (t57 _).mp z2
          rw [e3 (cl + 1) (by omega), s1]
          have hv := ev 0 (ix (L 13 x) (cl + 1)) 0 rfl (by omega) ⟨by omega, by omega⟩
          have hv' : ((0 * 10 + ix (L 13 x) (cl + 1)) - 48 : Int32).toInt = ((((ix (L 13 x) (cl + 1)).toInt - 48).toNat : Nat) : Int) := by rw [hv]; omega
          refine ⟨fun y => absurd ((ile e1 tc2).mp y) (by omega), fun _ => ⟨cl + 2, tc2, by omega, ?_⟩⟩
          rw [e3 (cl + 2) (by omega)]
          refine ⟨fun y => h0 (fun k w => ?_), fun y => ⟨cl + 2, tc2, by omega, ?_⟩⟩
          · have y1 := (t48 _).mp y
            have e22 : cl + 1 + 1 = cl + 2 := rfl
            unfold numP dgC at w
            rw [e22] at w
            omega
          · rw [e3 (cl + 2) (by omega)]
            have y1 : ¬ (ix (L 13 x) (cl + 2)).toInt < 48 := fun v => y ((t48 _).mpr v)
            refine ⟨fun y2 => ⟨cl + 2, tc2, by omega, ?_⟩, fun y2 => h0 (fun k w => ?_)⟩
            · have y3 := (t57 _).mp y2
              rw [e3 (cl + 2) (by omega), s2]
              have hw := ev _ (ix (L 13 x) (cl + 2)) _ hv' (by omega) ⟨by omega, by omega⟩
              have hw' : ((((0 * 10 + ix (L 13 x) (cl + 1)) - 48) * 10 + ix (L 13 x) (cl + 2)) - 48 : Int32).toInt = (((10 * ((ix (L 13 x) (cl + 1)).toInt - 48) + ((ix (L 13 x) (cl + 2)).toInt - 48)).toNat : Nat) : Int) := by rw [hw]; omega
              refine ⟨fun _ => ?_, fun v => absurd ((ile e1 tc3).mpr (by omega)) v⟩
              rw [iofn hw']
              refine h1 _ (by omega) (Or.inr ⟨by omega, ⟨by omega, by omega⟩, ⟨by show 48 ≤ (ix (L 13 x) (cl + 2)).toInt; omega, by show (ix (L 13 x) (cl + 2)).toInt ≤ 57; omega⟩, ?_⟩)
              show _ = 10 * ((ix (L 13 x) (cl + 1)).toInt - 48) + ((ix (L 13 x) (cl + 2)).toInt - 48)
              omega
            · have y3 : ¬ (ix (L 13 x) (cl + 2)).toInt ≤ 57 := fun v => y2 ((t57 _).mpr v)
              have e22 : cl + 1 + 1 = cl + 2 := rfl
              unfold numP dgC at w
              rw [e22] at w
              omega
        · have z3 : ¬ (ix (L 13 x) (cl + 1)).toInt ≤ 57 := fun y => z2 ((t57 _).mpr y)
          unfold numP dgC at w
          omega
  · have q1 : ¬ ((L 13 x).length : Int) - ((cl + 1 : Nat) : Int) ≤ 2 := fun y => q2 ((ile (n := 2) td rfl).mpr y)
    unfold numP at z
    omega
