/-- does an argument of the kind k fit, from b on -/
def fitK (l : List Int32) (b : Nat) (k : Int32) : Prop := (k = 0 ∧ ¬ b ≤ l.length) ∨ (k = 1 ∧ b ≤ l.length) ∨ (k = 2 ∧ (aisP l [65] b ∨ aisP l [73] b)) ∨ (k = 3 ∧ b ≤ l.length ∧ ∃ j : Nat, j ≤ 24 ∧ numP l b j) ∨ (k = 4 ∧ b ≤ l.length ∧ (pth l b).isSome = true)
theorem pl_fits {x cl : Nat} {a : Int32} {M m : MzM} {L : MzV} {K : Int32 → MzM → Prop} (h : A1 M m L) (hc : mz_i m (12, x) 6 = Int32.ofNat cl) (hcl : cl ≤ (L 13 x).length) (hv : mz_i m (14, x) 3 = if (pth (L 13 x) (cl + 1)).isSome = true then 1 else 0) (h1 : fitK (L 13 x) (cl + 1) a → K 1 M) (h0 : ¬ fitK (L 13 x) (cl + 1) a → K 0 M) : wp_Ses_argumentFits x a M K := by
  unfold fitK at h1 h0
  have w0 : mzStrB.getD 0 [] = [65] := rfl
  have w1 : mzStrB.getD 1 [] = [73] := rfl
  have v3 : mz_i M (14, x) 3 = if (pth (L 13 x) (cl + 1)).isSome = true then 1 else 0 := (h.1 (14, x) 3 rfl).trans hv
  have N : ∀ (p q : Int32), a = p → ¬ p = q → ¬ a = q := fun p q e n z => n (e.symm.trans z)
  refine pl_hasArgument h hc hcl (fun ha => ⟨fun _ => ⟨fun k1 => h1 (Or.inr (Or.inl ⟨k1, by omega⟩)), fun k2 => ?_, fun k3 => ?_, fun k4 => ?_, fun n1 n2 n3 n4 => h0 ?_⟩, fun h9 => absurd h9 (by decide)⟩) (fun ha => ⟨fun h9 => absurd rfl h9, fun _ => ⟨fun z => h0 ?_, fun z => h1 (Or.inl ⟨z, by omega⟩)⟩⟩)
  · refine pl_argumentIs h hc hcl (by decide) (fun q => ⟨fun _ => ?_, fun h9 => absurd h9 (by decide)⟩) (fun q => ⟨fun h9 => absurd rfl h9, fun _ => pl_argumentIs h hc hcl (by decide) (fun q2 => ⟨fun h9 => absurd h9 (by decide), fun _ => ?_⟩) (fun q2 => ⟨fun _ => h0 ?_, fun h9 => absurd rfl h9⟩)⟩)
    · rw [w0] at q
      exact h1 (Or.inr (Or.inr (Or.inl ⟨k2, Or.inl q⟩)))
    · rw [w1] at q2
      exact h1 (Or.inr (Or.inr (Or.inl ⟨k2, Or.inr q2⟩)))
    · rw [w0] at q
      rw [w1] at q2
      rintro (z | z | z | z | z)
      · exact N 2 0 k2 (by decide) z.1
      · exact N 2 1 k2 (by decide) z.1
      · exact z.2.elim q q2
      · exact N 2 3 k2 (by decide) z.1
      · exact N 2 4 k2 (by decide) z.1
  · have bad : (∀ j : Nat, j ≤ 24 → ¬ numP (L 13 x) (cl + 1) j) → K 0 M := by
      intro hz
      refine h0 ?_
      rintro (z | z | z | z | z)
      · exact N 3 0 k3 (by decide) z.1
      · exact N 3 1 k3 (by decide) z.1
      · exact N 3 2 k3 (by decide) z.1
      · obtain ⟨j, j1, j2⟩ := z.2.2
        exact hz j j1 j2
      · exact N 3 4 k3 (by decide) z.1
    refine pl_argumentNumber h hc hcl (fun k hk hn => ⟨fun z => ?_, fun _ => pl_argumentNumber h hc hcl (fun k' hk' hn' => ⟨fun z => bad (fun j j1 j2 => ?_), fun z => h1 (Or.inr (Or.inr (Or.inr (Or.inl ⟨k3, by omega, k', ?_, hn'⟩))))⟩) (fun hz => absurd hn (hz k))⟩) (fun hz => ⟨fun _ => bad (fun j _ => hz j), fun h9 => absurd rfl h9⟩)
    · have z1 := (ieq (n := -1) (itn (n := k) (by omega)) rfl).mp z
      omega
    · have z1 := (ilt (m := 24) rfl (itn (n := k') (by omega))).mp z
      have e := numP_uniq hn' j2
      omega
    · have z1 : ¬ (24 : Int) < (k' : Int) := fun w => z ((ilt (m := 24) rfl (itn (n := k') (by omega))).mpr w)
      omega
  · rw [v3]
    by_cases hp : (pth (L 13 x) (cl + 1)).isSome = true
    · rw [if_pos hp]
      exact ⟨Or.inr rfl, h1 (Or.inr (Or.inr (Or.inr (Or.inr ⟨k4, by omega, hp⟩))))⟩
    · rw [if_neg hp]
      refine ⟨Or.inl rfl, h0 ?_⟩
      rintro (z | z | z | z | z)
      · exact N 4 0 k4 (by decide) z.1
      · exact N 4 1 k4 (by decide) z.1
      · exact N 4 2 k4 (by decide) z.1
      · exact N 4 3 k4 (by decide) z.1
      · exact hp z.2.2
  · rintro (z | z | z | z | z)
    · have := z.2
      omega
    · exact n1 z.1
    · exact n2 z.1
    · exact n3 z.1
    · exact n4 z.1
  · rintro (y | y | y | y | y)
    · exact z y.1
    · have := y.2
      omega
    · rcases y.2 with u | u
      · have := u.1
        simp only [List.length_singleton] at this
        omega
      · have := u.1
        simp only [List.length_singleton] at this
        omega
    · have := y.2.1
      omega
    · have := y.2.1
      omega
def pcB (v : Int32) : Bool := decide (v = 7 ∨ v = 9 ∨ (¬ v < 12 ∧ v ≤ 14) ∨ ¬ v < 17)
theorem mo_pc {v : Int32} {M : MzM} {K : Int32 → MzM → Prop} (h1 : pcB v = true → K 1 M) (h0 : pcB v = false → K 0 M) : wp_Mo_isPathCommand v M K := by
  unfold pcB at h1 h0
  rw [decide_eq_true_iff] at h1
  rw [decide_eq_false_iff_not] at h0
  have g : v < 12 → v < 17 := by
    intro q
    have q1 := (ilt (n := 12) rfl rfl).mp q
    exact (ilt (n := 17) rfl rfl).mpr (by omega)
  refine ⟨fun a => h1 (Or.inl a), fun a => ⟨fun b => h1 (Or.inr (Or.inl b)), fun b => ⟨fun c => ⟨fun _ => h0 ?_, fun d => absurd (g c) d⟩, fun c => ⟨fun d => h1 (Or.inr (Or.inr (Or.inl ⟨c, d⟩))), fun d => ⟨fun e => h0 ?_, fun e => h1 (Or.inr (Or.inr (Or.inr e)))⟩⟩⟩⟩⟩
  · rintro (z | z | z | z)
    · exact a z
    · exact b z
    · exact z.1 c
    · exact z (g c)
  · rintro (z | z | z | z)
    · exact a z
    · exact b z
    · exact d z.2
    · exact z e
theorem mo_good {x b c : Nat} {M m : MzM} {L : MzV} {K : Int32 → MzM → Prop} (h : A2 M m L) (hs : (mz_i m (30, 0) 29).toInt = (x : Int)) (hx : x < 2) (hb : mz_i m (30, 0) 32 = Int32.ofNat b) (hb2 : b ≤ 31) (hc : c < 21) (h1 : fitK (L 43 x) b (mzCmdA.getD c 0) → K 1 M) (h0 : ¬ fitK (L 43 x) b (mzCmdA.getD c 0) → K 0 M) : wp_Mo_argumentGood (Int32.ofNat (c + 1)) M K := by
  obtain ⟨e1, e2, e3⟩ := h.line hx
  have s0 : (mz_i M (30, 0) 29).toInt = (x : Int) := by rw [h.1 30 29 rfl]; exact hs
  have b0 : mz_i M (30, 0) 32 = Int32.ofNat b := (h.1 30 32 rfl).trans hb
  have tb : (Int32.ofNat b).toInt = (b : Int) := itn (by omega)
  have sb : Int32.ofNat b + 1 = Int32.ofNat (b + 1) := i32_succ rfl
  have fit1 : ¬ b ≤ (L 43 x).length → ¬ fitK (L 43 x) b 1 := by
    rintro q (z | z | z | z | z)
    · exact absurd z.1 (by decide)
    · exact q z.2
    · exact absurd z.1 (by decide)
    · exact absurd z.1 (by decide)
    · exact absurd z.1 (by decide)
  have fit0 : b ≤ (L 43 x).length → ¬ fitK (L 43 x) b 0 := by
    rintro q (z | z | z | z | z)
    · exact z.2 q
    · exact absurd z.1 (by decide)
    · exact absurd z.1 (by decide)
    · exact absurd z.1 (by decide)
    · exact absurd z.1 (by decide)
  have fit3 : (∀ j : Nat, j ≤ 24 → ¬ numP (L 43 x) b j) → ¬ fitK (L 43 x) b 3 := by
    rintro q (z | z | z | z | z)
    · exact absurd z.1 (by decide)
    · exact absurd z.1 (by decide)
    · exact absurd z.1 (by decide)
    · obtain ⟨j, j1, j2⟩ := z.2.2
      exact q j j1 j2
    · exact absurd z.1 (by decide)
  have fit3b : ¬ b ≤ (L 43 x).length → ¬ fitK (L 43 x) b 3 := by
    rintro q (z | z | z | z | z)
    · exact absurd z.1 (by decide)
    · exact absurd z.1 (by decide)
    · exact absurd z.1 (by decide)
    · exact q z.2.1
    · exact absurd z.1 (by decide)
  have fit4 : (pth (L 43 x) b).isSome = false → ¬ fitK (L 43 x) b 4 := by
    rintro q (z | z | z | z | z)
    · exact absurd z.1 (by decide)
    · exact absurd z.1 (by decide)
    · exact absurd z.1 (by decide)
    · exact absurd z.1 (by decide)
    · rw [q] at z
      exact absurd z.2.2 (by decide)
  have fit4b : ¬ b ≤ (L 43 x).length → ¬ fitK (L 43 x) b 4 := by
    rintro q (z | z | z | z | z)
    · exact absurd z.1 (by decide)
    · exact absurd z.1 (by decide)
    · exact absurd z.1 (by decide)
    · exact absurd z.1 (by decide)
    · exact q z.2.1
  have t5 : (fitK (L 43 x) b 2 → K 1 M) → (¬ fitK (L 43 x) b 2 → K 0 M) → (∃ j36 : Nat, (mz_i M (30, 0) 29).toInt = (j36 : Int) ∧ j36 < 2 ∧ ((¬ (mz_i M (41, 0) j36) = ((mz_i M (30, 0) 32) + (1 : Int32)) → K (0 : Int32) M) ∧ ((mz_i M (41, 0) j36) = ((mz_i M (30, 0) 32) + (1 : Int32)) → wp_Mo_ch (mz_i M (30, 0) 32) M (fun v43 M40 => ((v43 = (65 : Int32) → K (1 : Int32) M40) ∧ (¬ v43 = (65 : Int32) → wp_Mo_ch (mz_i M40 (30, 0) 32) M40 (fun v47 M44 => ((¬ v47 = (73 : Int32) → K (0 : Int32) M44) ∧ (v47 = (73 : Int32) → K (1 : Int32) M44))))))))) := by
    intro g1 g0
    have tb1 : (Int32.ofNat (b + 1)).toInt = ((b + 1 : Nat) : Int) := itn (by omega)
    have bad : ¬ (aisP (L 43 x) [65] b ∨ aisP (L 43 x) [73] b) → K 0 M := by
      intro q
      refine g0 ?_
      rintro (z | z | z | z | z)
      · exact absurd z.1 (by decide)
      · exact absurd z.1 (by decide)
      · exact q z.2
      · exact absurd z.1 (by decide)
      · exact absurd z.1 (by decide)
    have one : ∀ d : Int32, (L 43 x).length = b + 1 → ix (L 43 x) b = d → aisP (L 43 x) [d] b := by
      intro d q1 q2
      refine ⟨q1, fun j hj => ?_⟩
      have hj0 : j = 0 := by
        have : j < 1 := hj
        omega
      subst hj0
      exact q2
    refine ⟨x, s0, hx, fun q => bad (fun z => q ?_), fun q => ?_⟩
    · rw [b0, sb]
      refine (ieq e1 tb1).mpr ?_
      rcases z with z | z
      · have : (L 43 x).length = b + 1 := z.1
        omega
      · have : (L 43 x).length = b + 1 := z.1
        omega
    · rw [b0, sb] at q
      have q1 := (ieq e1 tb1).mp q
      have hl : (L 43 x).length = b + 1 := by omega
      rw [b0]
      refine mo_ch h hs hx tb (by omega) ?_
      rw [chv_ix (by omega)]
      refine ⟨fun z => g1 (Or.inr (Or.inr (Or.inl ⟨rfl, Or.inl (one 65 hl z)⟩))), fun z => ?_⟩
      rw [b0]
      refine mo_ch h hs hx tb (by omega) ?_
      rw [chv_ix (by omega)]
      refine ⟨fun z2 => bad (fun w => ?_), fun z2 => g1 (Or.inr (Or.inr (Or.inl ⟨rfl, Or.inr (one 73 hl z2)⟩)))⟩
      rcases w with w | w
      · exact z (w.2 0 (by decide))
      · exact z2 (w.2 0 (by decide))
  have hcc : c = 0 ∨ c = 1 ∨ c = 2 ∨ c = 3 ∨ c = 4 ∨ c = 5 ∨ c = 6 ∨ c = 7 ∨ c = 8 ∨ c = 9 ∨ c = 10 ∨ c = 11 ∨ c = 12 ∨ c = 13 ∨ c = 14 ∨ c = 15 ∨ c = 16 ∨ c = 17 ∨ c = 18 ∨ c = 19 ∨ c = 20 := by omega
  rcases hcc with rfl | rfl | rfl | rfl | rfl | rfl | rfl | rfl | rfl | rfl | rfl | rfl | rfl | rfl | rfl | rfl | rfl | rfl | rfl | rfl | rfl
  · -- 0
    have hx0 : ¬ fitK (L 43 x) b 1 → K 0 M := h0
    have hx1 : fitK (L 43 x) b 1 → K 1 M := h1
    exact ⟨fun _ => mo_hasArgument h hs hx hb hb2 (fun z => ⟨Or.inr rfl, hx1 (Or.inr (Or.inl ⟨rfl, z⟩))⟩) (fun z => ⟨Or.inl rfl, hx0 (fit1 z)⟩), fun h9 => absurd rfl h9⟩
  · -- 1
    have hx0 : ¬ fitK (L 43 x) b 1 → K 0 M := h0
    have hx1 : fitK (L 43 x) b 1 → K 1 M := h1
    exact ⟨fun h9 => absurd h9 (by decide), fun _ => ⟨fun h9 => absurd rfl h9, fun _ => mo_hasArgument h hs hx hb hb2 (fun z => ⟨Or.inr rfl, hx1 (Or.inr (Or.inl ⟨rfl, z⟩))⟩) (fun z => ⟨Or.inl rfl, hx0 (fit1 z)⟩)⟩⟩
  · -- 2
    have hx0 : ¬ fitK (L 43 x) b 0 → K 0 M := h0
    have hx1 : fitK (L 43 x) b 0 → K 1 M := h1
    exact ⟨fun h9 => absurd h9 (by decide), fun _ => ⟨fun _ => ⟨fun _ => ⟨fun _ => mo_pc (fun w => absurd w (by decide)) (fun _ => ⟨fun _ => mo_hasArgument h hs hx hb hb2 (fun z => ⟨fun _ => hx0 (fit0 z), fun h9 => absurd h9 (by decide)⟩) (fun z => ⟨fun h9 => absurd rfl h9, fun _ => hx1 (Or.inl ⟨rfl, z⟩)⟩), fun h9 => absurd rfl h9⟩), fun h9 => absurd h9 (by decide)⟩, fun h9 => absurd h9 (by decide)⟩, fun h9 => absurd h9 (by decide)⟩⟩
  · -- 3
    have hx0 : ¬ fitK (L 43 x) b 0 → K 0 M := h0
    have hx1 : fitK (L 43 x) b 0 → K 1 M := h1
    exact ⟨fun h9 => absurd h9 (by decide), fun _ => ⟨fun _ => ⟨fun _ => ⟨fun _ => mo_pc (fun w => absurd w (by decide)) (fun _ => ⟨fun _ => mo_hasArgument h hs hx hb hb2 (fun z => ⟨fun _ => hx0 (fit0 z), fun h9 => absurd h9 (by decide)⟩) (fun z => ⟨fun h9 => absurd rfl h9, fun _ => hx1 (Or.inl ⟨rfl, z⟩)⟩), fun h9 => absurd rfl h9⟩), fun h9 => absurd h9 (by decide)⟩, fun h9 => absurd h9 (by decide)⟩, fun h9 => absurd h9 (by decide)⟩⟩
  · -- 4
    have hx0 : ¬ fitK (L 43 x) b 2 → K 0 M := h0
    have hx1 : fitK (L 43 x) b 2 → K 1 M := h1
    exact ⟨fun h9 => absurd h9 (by decide), fun _ => ⟨fun _ => ⟨fun h9 => absurd rfl h9, fun _ => t5 hx1 hx0⟩, fun h9 => absurd h9 (by decide)⟩⟩
  · -- 5
    have hx0 : ¬ fitK (L 43 x) b 0 → K 0 M := h0
    have hx1 : fitK (L 43 x) b 0 → K 1 M := h1
    exact ⟨fun h9 => absurd h9 (by decide), fun _ => ⟨fun _ => ⟨fun _ => ⟨fun _ => mo_pc (fun w => absurd w (by decide)) (fun _ => ⟨fun _ => mo_hasArgument h hs hx hb hb2 (fun z => ⟨fun _ => hx0 (fit0 z), fun h9 => absurd h9 (by decide)⟩) (fun z => ⟨fun h9 => absurd rfl h9, fun _ => hx1 (Or.inl ⟨rfl, z⟩)⟩), fun h9 => absurd rfl h9⟩), fun h9 => absurd h9 (by decide)⟩, fun h9 => absurd h9 (by decide)⟩, fun h9 => absurd h9 (by decide)⟩⟩
  · -- 6
    have hx0 : ¬ fitK (L 43 x) b 4 → K 0 M := h0
    have hx1 : fitK (L 43 x) b 4 → K 1 M := h1
    exact ⟨fun h9 => absurd h9 (by decide), fun _ => ⟨fun _ => ⟨fun _ => ⟨fun _ => mo_pc (fun _ => ⟨fun h9 => absurd h9 (by decide), fun _ => mo_hasArgument h hs hx hb hb2 (fun z => ⟨fun h9 => absurd h9 (by decide), fun _ => mo_isPath h hs hx hb hb2 (fun w => ⟨fun h9 => absurd h9 (by decide), fun _ => hx1 (Or.inr (Or.inr (Or.inr (Or.inr ⟨rfl, z, w⟩))))⟩) (fun w => ⟨fun _ => hx0 (fit4 w), fun h9 => absurd rfl h9⟩)⟩) (fun z => ⟨fun _ => hx0 (fit4b z), fun h9 => absurd rfl h9⟩)⟩) (fun w => absurd w (by decide)), fun h9 => absurd h9 (by decide)⟩, fun h9 => absurd h9 (by decide)⟩, fun h9 => absurd h9 (by decide)⟩⟩
  · -- 7
    have hx0 : ¬ fitK (L 43 x) b 0 → K 0 M := h0
    have hx1 : fitK (L 43 x) b 0 → K 1 M := h1
    exact ⟨fun h9 => absurd h9 (by decide), fun _ => ⟨fun _ => ⟨fun _ => ⟨fun _ => mo_pc (fun w => absurd w (by decide)) (fun _ => ⟨fun _ => mo_hasArgument h hs hx hb hb2 (fun z => ⟨fun _ => hx0 (fit0 z), fun h9 => absurd h9 (by decide)⟩) (fun z => ⟨fun h9 => absurd rfl h9, fun _ => hx1 (Or.inl ⟨rfl, z⟩)⟩), fun h9 => absurd rfl h9⟩), fun h9 => absurd h9 (by decide)⟩, fun h9 => absurd h9 (by decide)⟩, fun h9 => absurd h9 (by decide)⟩⟩
  · -- 8
    have hx0 : ¬ fitK (L 43 x) b 4 → K 0 M := h0
    have hx1 : fitK (L 43 x) b 4 → K 1 M := h1
    exact ⟨fun h9 => absurd h9 (by decide), fun _ => ⟨fun _ => ⟨fun _ => ⟨fun _ => mo_pc (fun _ => ⟨fun h9 => absurd h9 (by decide), fun _ => mo_hasArgument h hs hx hb hb2 (fun z => ⟨fun h9 => absurd h9 (by decide), fun _ => mo_isPath h hs hx hb hb2 (fun w => ⟨fun h9 => absurd h9 (by decide), fun _ => hx1 (Or.inr (Or.inr (Or.inr (Or.inr ⟨rfl, z, w⟩))))⟩) (fun w => ⟨fun _ => hx0 (fit4 w), fun h9 => absurd rfl h9⟩)⟩) (fun z => ⟨fun _ => hx0 (fit4b z), fun h9 => absurd rfl h9⟩)⟩) (fun w => absurd w (by decide)), fun h9 => absurd h9 (by decide)⟩, fun h9 => absurd h9 (by decide)⟩, fun h9 => absurd h9 (by decide)⟩⟩
  · -- 9
    have hx0 : ¬ fitK (L 43 x) b 0 → K 0 M := h0
    have hx1 : fitK (L 43 x) b 0 → K 1 M := h1
    exact ⟨fun h9 => absurd h9 (by decide), fun _ => ⟨fun _ => ⟨fun _ => ⟨fun _ => mo_pc (fun w => absurd w (by decide)) (fun _ => ⟨fun _ => mo_hasArgument h hs hx hb hb2 (fun z => ⟨fun _ => hx0 (fit0 z), fun h9 => absurd h9 (by decide)⟩) (fun z => ⟨fun h9 => absurd rfl h9, fun _ => hx1 (Or.inl ⟨rfl, z⟩)⟩), fun h9 => absurd rfl h9⟩), fun h9 => absurd h9 (by decide)⟩, fun h9 => absurd h9 (by decide)⟩, fun h9 => absurd h9 (by decide)⟩⟩
  · -- 10
    have hx0 : ¬ fitK (L 43 x) b 3 → K 0 M := h0
    have hx1 : fitK (L 43 x) b 3 → K 1 M := h1
    exact ⟨fun h9 => absurd h9 (by decide), fun _ => ⟨fun _ => ⟨fun _ => ⟨fun h9 => absurd rfl h9, fun _ => mo_hasArgument h hs hx hb hb2 (fun z => ⟨fun h9 => absurd h9 (by decide), fun _ => mo_number h hs hx hb hb2 (fun j hj hn => ⟨fun w => absurd ((ilt (n := 0) (itn (n := j) (by omega)) rfl).mp w) (by omega), fun _ => hx1 (Or.inr (Or.inr (Or.inr (Or.inl ⟨rfl, z, j, hj, hn⟩))))⟩) (fun hz => ⟨fun _ => hx0 (fit3 hz), fun w => absurd (by decide) w⟩)⟩) (fun z => ⟨fun _ => hx0 (fit3b z), fun h9 => absurd rfl h9⟩)⟩, fun h9 => absurd h9 (by decide)⟩, fun h9 => absurd h9 (by decide)⟩⟩
  · -- 11
    have hx0 : ¬ fitK (L 43 x) b 4 → K 0 M := h0
    have hx1 : fitK (L 43 x) b 4 → K 1 M := h1
    exact ⟨fun h9 => absurd h9 (by decide), fun _ => ⟨fun _ => ⟨fun _ => ⟨fun _ => mo_pc (fun _ => ⟨fun h9 => absurd h9 (by decide), fun _ => mo_hasArgument h hs hx hb hb2 (fun z => ⟨fun h9 => absurd h9 (by decide), fun _ => mo_isPath h hs hx hb hb2 (fun w => ⟨fun h9 => absurd h9 (by decide), fun _ => hx1 (Or.inr (Or.inr (Or.inr (Or.inr ⟨rfl, z, w⟩))))⟩) (fun w => ⟨fun _ => hx0 (fit4 w), fun h9 => absurd rfl h9⟩)⟩) (fun z => ⟨fun _ => hx0 (fit4b z), fun h9 => absurd rfl h9⟩)⟩) (fun w => absurd w (by decide)), fun h9 => absurd h9 (by decide)⟩, fun h9 => absurd h9 (by decide)⟩, fun h9 => absurd h9 (by decide)⟩⟩
  · -- 12
    have hx0 : ¬ fitK (L 43 x) b 4 → K 0 M := h0
    have hx1 : fitK (L 43 x) b 4 → K 1 M := h1
    exact ⟨fun h9 => absurd h9 (by decide), fun _ => ⟨fun _ => ⟨fun _ => ⟨fun _ => mo_pc (fun _ => ⟨fun h9 => absurd h9 (by decide), fun _ => mo_hasArgument h hs hx hb hb2 (fun z => ⟨fun h9 => absurd h9 (by decide), fun _ => mo_isPath h hs hx hb hb2 (fun w => ⟨fun h9 => absurd h9 (by decide), fun _ => hx1 (Or.inr (Or.inr (Or.inr (Or.inr ⟨rfl, z, w⟩))))⟩) (fun w => ⟨fun _ => hx0 (fit4 w), fun h9 => absurd rfl h9⟩)⟩) (fun z => ⟨fun _ => hx0 (fit4b z), fun h9 => absurd rfl h9⟩)⟩) (fun w => absurd w (by decide)), fun h9 => absurd h9 (by decide)⟩, fun h9 => absurd h9 (by decide)⟩, fun h9 => absurd h9 (by decide)⟩⟩
  · -- 13
    have hx0 : ¬ fitK (L 43 x) b 4 → K 0 M := h0
    have hx1 : fitK (L 43 x) b 4 → K 1 M := h1
    exact ⟨fun h9 => absurd h9 (by decide), fun _ => ⟨fun _ => ⟨fun _ => ⟨fun _ => mo_pc (fun _ => ⟨fun h9 => absurd h9 (by decide), fun _ => mo_hasArgument h hs hx hb hb2 (fun z => ⟨fun h9 => absurd h9 (by decide), fun _ => mo_isPath h hs hx hb hb2 (fun w => ⟨fun h9 => absurd h9 (by decide), fun _ => hx1 (Or.inr (Or.inr (Or.inr (Or.inr ⟨rfl, z, w⟩))))⟩) (fun w => ⟨fun _ => hx0 (fit4 w), fun h9 => absurd rfl h9⟩)⟩) (fun z => ⟨fun _ => hx0 (fit4b z), fun h9 => absurd rfl h9⟩)⟩) (fun w => absurd w (by decide)), fun h9 => absurd h9 (by decide)⟩, fun h9 => absurd h9 (by decide)⟩, fun h9 => absurd h9 (by decide)⟩⟩
  · -- 14
    have hx0 : ¬ fitK (L 43 x) b 0 → K 0 M := h0
    have hx1 : fitK (L 43 x) b 0 → K 1 M := h1
    exact ⟨fun h9 => absurd h9 (by decide), fun _ => ⟨fun _ => ⟨fun _ => ⟨fun _ => mo_pc (fun w => absurd w (by decide)) (fun _ => ⟨fun _ => mo_hasArgument h hs hx hb hb2 (fun z => ⟨fun _ => hx0 (fit0 z), fun h9 => absurd h9 (by decide)⟩) (fun z => ⟨fun h9 => absurd rfl h9, fun _ => hx1 (Or.inl ⟨rfl, z⟩)⟩), fun h9 => absurd rfl h9⟩), fun h9 => absurd h9 (by decide)⟩, fun h9 => absurd h9 (by decide)⟩, fun h9 => absurd h9 (by decide)⟩⟩
  · -- 15
    have hx0 : ¬ fitK (L 43 x) b 0 → K 0 M := h0
    have hx1 : fitK (L 43 x) b 0 → K 1 M := h1
    exact ⟨fun h9 => absurd h9 (by decide), fun _ => ⟨fun _ => ⟨fun _ => ⟨fun _ => mo_pc (fun w => absurd w (by decide)) (fun _ => ⟨fun _ => mo_hasArgument h hs hx hb hb2 (fun z => ⟨fun _ => hx0 (fit0 z), fun h9 => absurd h9 (by decide)⟩) (fun z => ⟨fun h9 => absurd rfl h9, fun _ => hx1 (Or.inl ⟨rfl, z⟩)⟩), fun h9 => absurd rfl h9⟩), fun h9 => absurd h9 (by decide)⟩, fun h9 => absurd h9 (by decide)⟩, fun h9 => absurd h9 (by decide)⟩⟩
  · -- 16
    have hx0 : ¬ fitK (L 43 x) b 4 → K 0 M := h0
    have hx1 : fitK (L 43 x) b 4 → K 1 M := h1
    exact ⟨fun h9 => absurd h9 (by decide), fun _ => ⟨fun _ => ⟨fun _ => ⟨fun _ => mo_pc (fun _ => ⟨fun h9 => absurd h9 (by decide), fun _ => mo_hasArgument h hs hx hb hb2 (fun z => ⟨fun h9 => absurd h9 (by decide), fun _ => mo_isPath h hs hx hb hb2 (fun w => ⟨fun h9 => absurd h9 (by decide), fun _ => hx1 (Or.inr (Or.inr (Or.inr (Or.inr ⟨rfl, z, w⟩))))⟩) (fun w => ⟨fun _ => hx0 (fit4 w), fun h9 => absurd rfl h9⟩)⟩) (fun z => ⟨fun _ => hx0 (fit4b z), fun h9 => absurd rfl h9⟩)⟩) (fun w => absurd w (by decide)), fun h9 => absurd h9 (by decide)⟩, fun h9 => absurd h9 (by decide)⟩, fun h9 => absurd h9 (by decide)⟩⟩
  · -- 17
    have hx0 : ¬ fitK (L 43 x) b 4 → K 0 M := h0
    have hx1 : fitK (L 43 x) b 4 → K 1 M := h1
    exact ⟨fun h9 => absurd h9 (by decide), fun _ => ⟨fun _ => ⟨fun _ => ⟨fun _ => mo_pc (fun _ => ⟨fun h9 => absurd h9 (by decide), fun _ => mo_hasArgument h hs hx hb hb2 (fun z => ⟨fun h9 => absurd h9 (by decide), fun _ => mo_isPath h hs hx hb hb2 (fun w => ⟨fun h9 => absurd h9 (by decide), fun _ => hx1 (Or.inr (Or.inr (Or.inr (Or.inr ⟨rfl, z, w⟩))))⟩) (fun w => ⟨fun _ => hx0 (fit4 w), fun h9 => absurd rfl h9⟩)⟩) (fun z => ⟨fun _ => hx0 (fit4b z), fun h9 => absurd rfl h9⟩)⟩) (fun w => absurd w (by decide)), fun h9 => absurd h9 (by decide)⟩, fun h9 => absurd h9 (by decide)⟩, fun h9 => absurd h9 (by decide)⟩⟩
  · -- 18
    have hx0 : ¬ fitK (L 43 x) b 4 → K 0 M := h0
    have hx1 : fitK (L 43 x) b 4 → K 1 M := h1
    exact ⟨fun h9 => absurd h9 (by decide), fun _ => ⟨fun _ => ⟨fun _ => ⟨fun _ => mo_pc (fun _ => ⟨fun h9 => absurd h9 (by decide), fun _ => mo_hasArgument h hs hx hb hb2 (fun z => ⟨fun h9 => absurd h9 (by decide), fun _ => mo_isPath h hs hx hb hb2 (fun w => ⟨fun h9 => absurd h9 (by decide), fun _ => hx1 (Or.inr (Or.inr (Or.inr (Or.inr ⟨rfl, z, w⟩))))⟩) (fun w => ⟨fun _ => hx0 (fit4 w), fun h9 => absurd rfl h9⟩)⟩) (fun z => ⟨fun _ => hx0 (fit4b z), fun h9 => absurd rfl h9⟩)⟩) (fun w => absurd w (by decide)), fun h9 => absurd h9 (by decide)⟩, fun h9 => absurd h9 (by decide)⟩, fun h9 => absurd h9 (by decide)⟩⟩
  · -- 19
    have hx0 : ¬ fitK (L 43 x) b 4 → K 0 M := h0
    have hx1 : fitK (L 43 x) b 4 → K 1 M := h1
    exact ⟨fun h9 => absurd h9 (by decide), fun _ => ⟨fun _ => ⟨fun _ => ⟨fun _ => mo_pc (fun _ => ⟨fun h9 => absurd h9 (by decide), fun _ => mo_hasArgument h hs hx hb hb2 (fun z => ⟨fun h9 => absurd h9 (by decide), fun _ => mo_isPath h hs hx hb hb2 (fun w => ⟨fun h9 => absurd h9 (by decide), fun _ => hx1 (Or.inr (Or.inr (Or.inr (Or.inr ⟨rfl, z, w⟩))))⟩) (fun w => ⟨fun _ => hx0 (fit4 w), fun h9 => absurd rfl h9⟩)⟩) (fun z => ⟨fun _ => hx0 (fit4b z), fun h9 => absurd rfl h9⟩)⟩) (fun w => absurd w (by decide)), fun h9 => absurd h9 (by decide)⟩, fun h9 => absurd h9 (by decide)⟩, fun h9 => absurd h9 (by decide)⟩⟩
  · -- 20
    have hx0 : ¬ fitK (L 43 x) b 4 → K 0 M := h0
    have hx1 : fitK (L 43 x) b 4 → K 1 M := h1
    exact ⟨fun h9 => absurd h9 (by decide), fun _ => ⟨fun _ => ⟨fun _ => ⟨fun _ => mo_pc (fun _ => ⟨fun h9 => absurd h9 (by decide), fun _ => mo_hasArgument h hs hx hb hb2 (fun z => ⟨fun h9 => absurd h9 (by decide), fun _ => mo_isPath h hs hx hb hb2 (fun w => ⟨fun h9 => absurd h9 (by decide), fun _ => hx1 (Or.inr (Or.inr (Or.inr (Or.inr ⟨rfl, z, w⟩))))⟩) (fun w => ⟨fun _ => hx0 (fit4 w), fun h9 => absurd rfl h9⟩)⟩) (fun z => ⟨fun _ => hx0 (fit4b z), fun h9 => absurd rfl h9⟩)⟩) (fun w => absurd w (by decide)), fun h9 => absurd h9 (by decide)⟩, fun h9 => absurd h9 (by decide)⟩, fun h9 => absurd h9 (by decide)⟩⟩
