theorem dg_sub {c : Int32} : (0 ≤ (c - 48).toInt ∧ (c - 48).toInt ≤ 9) ↔ dgC c := by
  have h1 := Int32.toInt_lt c
  have h2 := Int32.le_toInt c
  have e : (c - 48).toInt = (c.toInt - 48).bmod (2 ^ 32) := Int32.toInt_sub c 48
  rw [e]
  unfold dgC
  simp only [Int.bmod]
  omega
theorem dg_val {c : Int32} (h : dgC c) : (c - 48).toInt = c.toInt - 48 := by
  unfold dgC at h
  exact isub (n := 48) rfl rfl (by omega) (by omega)
theorem mo_number {x b : Nat} {M m : MzM} {L : MzV} {K : Int32 → MzM → Prop} (h : A2 M m L) (hs : (mz_i m (30, 0) 29).toInt = (x : Int)) (hx : x < 2) (hb : mz_i m (30, 0) 32 = Int32.ofNat b) (hb2 : b ≤ 31) (h1 : ∀ k : Nat, k ≤ 24 → numP (L 43 x) b k → K (Int32.ofNat k) M) (h0 : (∀ k : Nat, k ≤ 24 → ¬ numP (L 43 x) b k) → K (-1) M) : wp_Mo_number M K := by
  obtain ⟨e1, e2, e3⟩ := h.line hx
  have s0 : (mz_i M (30, 0) 29).toInt = (x : Int) := by rw [h.1 30 29 rfl]; exact hs
  have b0 : mz_i M (30, 0) 32 = Int32.ofNat b := (h.1 30 32 rfl).trans hb
  have tb : (Int32.ofNat b).toInt = (b : Int) := itn (by omega)
  have sb : Int32.ofNat b + 1 = Int32.ofNat (b + 1) := i32_succ rfl
  have td : (mz_i M (41, 0) x - Int32.ofNat b).toInt = ((L 43 x).length : Int) - (b : Int) := isub e1 tb (by omega) (by omega)
  have t0 : ∀ c : Int32, ¬ c < 0 ∧ c ≤ 9 ↔ (0 ≤ c.toInt ∧ c.toInt ≤ 9) := by
    intro c
    rw [ilt (a := c) (n := 0) rfl rfl, ile (a := c) (n := 9) rfl rfl]
    omega
  refine ⟨x, s0, hx, ?_⟩
  rw [b0]
  refine mo_ch h hs hx tb (by omega) ⟨fun q => h0 (fun k _ z => ?_), fun q => ⟨fun q2 => h0 (fun k _ z => ?_), fun q2 => ?_⟩⟩
  · have q1 := (ilt (n := 1) td rfl).mp q
    unfold numP at z
    omega
  · have q1 := (ilt (m := 2) rfl td).mp q2
    unfold numP at z
    omega
  · have q1 : ¬ ((L 43 x).length : Int) - (b : Int) < 1 := fun z => q ((ilt (n := 1) td rfl).mpr z)
    have q3 : ¬ 2 < ((L 43 x).length : Int) - (b : Int) := fun z => q2 ((ilt (m := 2) rfl td).mpr z)
    rw [chv_ix (by omega)]
    have nd : ¬ dgC (ix (L 43 x) b) → ∀ k, ¬ numP (L 43 x) b k := by
      intro hd k z
      rcases z with z | z
      · exact hd z.2.1
      · exact hd z.2.1
    refine ⟨fun z => h0 (fun k _ => nd (fun w => ((t0 _).mpr (dg_sub.mpr w)).1 z) k), fun z => ⟨fun z2 => ?_, fun z2 => h0 (fun k _ => nd (fun w => z2 ((t0 _).mpr (dg_sub.mpr w)).2) k)⟩⟩
    have hd : dgC (ix (L 43 x) b) := dg_sub.mp ((t0 _).mp ⟨z, z2⟩)
    have ev := dg_val hd
    have hd' := hd
    unfold dgC at hd'
    refine ⟨fun w => ?_, fun w => ?_⟩
    · have w1 : ¬ ((L 43 x).length : Int) - (b : Int) = 1 := fun y => w ((ieq (n := 1) td rfl).mpr y)
      rw [b0, sb]
      refine mo_ch h hs hx (itn (n := b + 1) (by omega)) (by omega) ?_
      rw [chv_ix (by omega)]
      have nd2 : ¬ dgC (ix (L 43 x) (b + 1)) → ∀ k, ¬ numP (L 43 x) b k := by
        intro hd2 k y
        rcases y with y | y
        · omega
        · exact hd2 y.2.2.1
      refine ⟨fun y => h0 (fun k _ => nd2 (fun v => ((t0 _).mpr (dg_sub.mpr v)).1 y) k), fun y => ⟨fun y2 => h0 (fun k _ => nd2 (fun v => ?_) k), fun y2 => ?_⟩⟩
      · have v1 := (dg_sub.mpr v).2
        have v2 := (ilt (m := 9) rfl rfl).mp y2
        omega
      · have y3 : ¬ 9 < (ix (L 43 x) (b + 1) - 48).toInt := fun v => y2 ((ilt (m := 9) rfl rfl).mpr v)
        have y4 : ¬ (ix (L 43 x) (b + 1) - 48).toInt < 0 := fun v => y ((ilt (n := 0) rfl rfl).mpr v)
        have hd2 : dgC (ix (L 43 x) (b + 1)) := dg_sub.mp ⟨by omega, by omega⟩
        have ev2 := dg_val hd2
        have hd2' := hd2
        unfold dgC at hd2'
        have ew : ((10 : Int32) * (ix (L 43 x) b - 48) + (ix (L 43 x) (b + 1) - 48)).toInt = (((10 * ((ix (L 43 x) b).toInt - 48) + ((ix (L 43 x) (b + 1)).toInt - 48)).toNat : Nat) : Int) := by
          rw [iadd (imul (a := 10) (m := 10) rfl ev (by omega) (by omega)) ev2 (by omega) (by omega)]
          omega
        have hn : numP (L 43 x) b (10 * ((ix (L 43 x) b).toInt - 48) + ((ix (L 43 x) (b + 1)).toInt - 48)).toNat := Or.inr ⟨by omega, hd, hd2, by omega⟩
        refine ⟨fun v => ?_, fun v => h0 (fun k hk y => ?_)⟩
        · have v1 := (ile (n := 24) ew rfl).mp v
          rw [iofn ew]
          exact h1 _ (by omega) hn
        · have e := numP_uniq y hn
          have v1 : ¬ (((10 * ((ix (L 43 x) b).toInt - 48) + ((ix (L 43 x) (b + 1)).toInt - 48)).toNat : Nat) : Int) ≤ 24 := fun u => v ((ile (n := 24) ew rfl).mpr u)
          omega
    · have w1 := (ieq (n := 1) td rfl).mp w
      have ew : (ix (L 43 x) b - 48).toInt = ((((ix (L 43 x) b).toInt - 48).toNat : Nat) : Int) := by rw [ev]; omega
      rw [iofn ew]
      exact h1 _ (by omega) (Or.inl ⟨by omega, hd, by omega⟩)
theorem pl_hasArgument {x cl : Nat} {M m : MzM} {L : MzV} {K : Int32 → MzM → Prop} (h : A1 M m L) (hc : mz_i m (12, x) 6 = Int32.ofNat cl) (hcl : cl ≤ (L 13 x).length) (h1 : cl < (L 13 x).length → K 1 M) (h0 : ¬ cl < (L 13 x).length → K 0 M) : wp_Lin_hasArgument x M K := by
  obtain ⟨e1, e2, e3⟩ := h.line x
  have t6 : (mz_i M (12, x) 6).toInt = (cl : Int) := by rw [h.1 (12, x) 6 rfl, hc]; exact itn (by omega)
  refine ⟨fun q => h0 ?_, fun q => h1 ?_⟩
  · have q1 := (ile e1 t6).mp q
    omega
  · have q1 : ¬ ((L 13 x).length : Int) ≤ (cl : Int) := fun z => q ((ile e1 t6).mpr z)
    omega
theorem mo_hasArgument {x b : Nat} {M m : MzM} {L : MzV} {K : Int32 → MzM → Prop} (h : A2 M m L) (hs : (mz_i m (30, 0) 29).toInt = (x : Int)) (hx : x < 2) (hb : mz_i m (30, 0) 32 = Int32.ofNat b) (hb2 : b ≤ 31) (h1 : b ≤ (L 43 x).length → K 1 M) (h0 : ¬ b ≤ (L 43 x).length → K 0 M) : wp_Mo_hasArgument M K := by
  obtain ⟨e1, e2, e3⟩ := h.line hx
  have s0 : (mz_i M (30, 0) 29).toInt = (x : Int) := by rw [h.1 30 29 rfl]; exact hs
  have tb : (mz_i M (30, 0) 32).toInt = (b : Int) := by rw [h.1 30 32 rfl, hb]; exact itn (by omega)
  refine ⟨x, s0, hx, fun q => h0 ?_, fun q => h1 ?_⟩
  · have q1 := (ilt e1 tb).mp q
    omega
  · have q1 : ¬ ((L 43 x).length : Int) < (b : Int) := fun z => q ((ilt e1 tb).mpr z)
    omega
