theorem i32_x01 {a : Int32} {x : Nat} (ha : a.toInt = (x : Int)) (hx : x < 2) : a = 0 ∨ a = 1 := by
  have hx' : x = 0 ∨ x = 1 := by omega
  rcases hx' with rfl | rfl
  · exact Or.inl (Int32.toInt_inj.mp (ha.trans rfl))
  · exact Or.inr (Int32.toInt_inj.mp (ha.trans rfl))
theorem mo_reply_loop {x n : Nat} {y1 y2 : Int32} {K : Int32 → MzM → Prop} {M0 : MzM} (ha : y1.toInt = (x : Int)) (hx : x < 2) (hn : mz_i M0 (44, 0) x = Int32.ofNat n) (hn2 : n ≤ 199) (hk : ∀ M' : MzM, (∀ (p : MzL) (k : Nat), p ≠ (45, 0) → mz_i M' p k = mz_i M0 p k) → (∀ k : Nat, mz_i M' (45, 0) k = if 200 * x ≤ k ∧ k < 200 * x + n then mz_i M0 (45, 0) (k + 1) else mz_i M0 (45, 0) k) → K y2 M') : ∀ (r i : Nat) (M : MzM), i + r = n → (∀ (p : MzL) (k : Nat), p ≠ (45, 0) → mz_i M p k = mz_i M0 p k) → (∀ k : Nat, mz_i M (45, 0) k = if 200 * x ≤ k ∧ k < 200 * x + i then mz_i M0 (45, 0) (k + 1) else mz_i M0 (45, 0) k) → wp_Mo_reply_52 K (r + 1) y1 y2 (Int32.ofNat (200 * x + i)) M := by
  have e5 : ((200 : Int32) * y1).toInt = 200 * (x : Int) := imul (m := 200) rfl ha (by omega) (by omega)
  intro r
  induction r with
  | zero =>
    intro i M hi h1 h2
    have hin : i = n := by omega
    subst hin
    have e4 : (mz_i M (44, 0) x).toInt = (i : Int) := by rw [h1 (44, 0) x (by decide), hn]; exact itn (by omega)
    have e6 := iadd e5 e4 (by omega) (by omega)
    have e7 : (Int32.ofNat (200 * x + i)).toInt = ((200 * x + i : Nat) : Int) := itn (by omega)
    exact ⟨x, ha, hx, fun _ => hk M h1 h2, fun h9 => absurd ((ile e6 e7).mpr (by omega)) h9⟩
  | succ r ih =>
    intro i M hi h1 h2
    have e4 : (mz_i M (44, 0) x).toInt = (n : Int) := by rw [h1 (44, 0) x (by decide), hn]; exact itn (by omega)
    have e6 := iadd e5 e4 (by omega) (by omega)
    have e7 : (Int32.ofNat (200 * x + i)).toInt = ((200 * x + i : Nat) : Int) := itn (by omega)
    have es : Int32.ofNat (200 * x + i) + 1 = Int32.ofNat (200 * x + (i + 1)) := i32_succ rfl
    refine ⟨x, ha, hx, fun h9 => absurd ((ile e6 e7).mp h9) (by omega), fun _ => ⟨200 * x + (i + 1), ?_, by omega, 200 * x + i, e7, by omega, ?_⟩⟩
    · rw [es]
      exact itn (by omega)
    · rintro _ rfl
      rw [es]
      refine ih (i + 1) _ (by omega) (fun p k hp => ?_) (fun k => ?_)
      · rw [mz_i_si, if_neg (fun z => hp z.1)]
        exact h1 p k hp
      · rw [mz_i_si]
        by_cases hk' : k = 200 * x + i
        · have q1 := h2 (200 * x + (i + 1))
          rw [if_neg (by omega)] at q1
          rw [if_pos ⟨rfl, hk'⟩, q1, if_pos (by omega), hk']
          rfl
        · rw [if_neg (fun z => hk' z.2), h2 k]
          by_cases hr : 200 * x ≤ k ∧ k < 200 * x + i
          · rw [if_pos hr, if_pos (by omega)]
          · rw [if_neg hr, if_neg (by omega)]
theorem mo_reply {x : Nat} {a : Int32} {M m : MzM} {L : MzV} {K : Int32 → MzM → Prop} (h : A2 M m L) (ha : a.toInt = (x : Int)) (hx : x < 2) (h0 : L 45 x = [] → ∀ M', A2 M' (mz_si m (30, 0) 1 0) L → K (-1) M') (h1 : ∀ b q M', L 45 x = b :: q → A2 M' (mz_si m (30, 0) 1 0) (lu L 45 x q) → K b M') : wp_Mo_reply a M K := by
  intro N hN
  have h' : A2 N (mz_si m (30, 0) 1 0) L := by rw [hN]; exact h.si (t := 30) rfl
  clear hN h
  obtain ⟨e1, e2, e3⟩ := h'.2 45 44 200 2 x rfl hx
  have e4 : (mz_i N (44, 0) x).toInt = ((L 45 x).length : Int) := by rw [e1]; exact itn (by omega)
  have e5 : ((200 : Int32) * a).toInt = ((200 * x + 0 : Nat) : Int) := by rw [imul (m := 200) rfl ha (by omega) (by omega)]; omega
  refine mo_ses (fun _ => ⟨fun _ => ⟨x, ha, hx, fun h9 => ?_, fun h9 => h0 ?_ N h'⟩, fun h9 => absurd h9 (by decide)⟩) (fun h9 => absurd (i32_x01 ha hx) h9)
  · cases hq : L 45 x with
    | nil =>
      rw [hq] at e1
      exact absurd e1 h9
    | cons b q =>
      have hlen : (L 45 x).length = q.length + 1 := by rw [hq]; rfl
      refine ⟨200 * x + 0, e5, by omega, x, ha, hx, x, ha, hx, ?_⟩
      rintro _ rfl
      refine ⟨q.length + 1, ?_⟩
      rw [iofn e5]
      have hb : mz_i N (45, 0) (200 * x + 0) = b := by
        have z := e3 0 (by omega)
        rw [hq] at z
        exact (Option.some.inj z).symm
      rw [hb]
      have hw : mz_i N (44, 0) x - 1 = Int32.ofNat q.length := i32_pred (by rw [e1, hlen]) (by omega)
      rw [hw]
      refine mo_reply_loop (M0 := mz_si N (44, 0) x (Int32.ofNat q.length)) (n := q.length) ha hx (by rw [mz_i_si, if_pos ⟨rfl, rfl⟩]) (by omega) (fun M' k1 k2 => h1 b q M' hq ?_) q.length 0 _ (by omega) (fun _ _ _ => rfl) (fun k => by rw [if_neg (by omega)])
      have nz : ∀ p k : Nat, p ≠ 44 → mz_i (mz_si N (44, 0) x (Int32.ofNat q.length)) (p, 0) k = mz_i N (p, 0) k := by
        intro p k hp
        rw [mz_i_si, if_neg (fun z => hp (congrArg Prod.fst z.1))]
      refine ⟨fun t k ht => ?_, fun t' a' c' n' i' ht' hi' => ?_⟩
      · have n1 : t ≠ 45 := by rintro rfl; exact absurd ht (by decide)
        have n2 : t ≠ 44 := by rintro rfl; exact absurd ht (by decide)
        rw [k1 (t, 0) k (fun z => n1 (congrArg Prod.fst z)), nz t k n2]
        exact h'.1 t k ht
      · obtain ⟨d1, d2, d3⟩ := h'.2 t' a' c' n' i' ht' hi'
        have n1 : a' ≠ 45 := fun z => tb2_cell (t := 45) (a := 44) (c := 200) (n := 2) rfl ht' z.symm
        by_cases ht : t' = 45
        · subst ht
          have hs : some (a', c', n') = some (44, 200, 2) := ht'.symm
          simp only [Option.some.injEq, Prod.mk.injEq] at hs
          obtain ⟨rfl, rfl, rfl⟩ := hs
          by_cases hi : i' = x
          · subst hi
            rw [lu_same]
            refine ⟨?_, by omega, fun j hj => ?_⟩
            · rw [k1 (44, 0) i' (by decide), mz_i_si, if_pos ⟨rfl, rfl⟩]
            · have z := d3 (j + 1) (by omega)
              rw [hq, List.getElem?_cons_succ] at z
              rw [z, k2, if_pos (by omega), nz 45 _ (by decide)]
              rfl
          · rw [lu_ne L _ (fun z => hi z.2)]
            refine ⟨?_, d2, fun j hj => ?_⟩
            · rw [k1 (44, 0) i' (by decide), mz_i_si, if_neg (fun z => hi z.2)]
              exact d1
            · rw [d3 j hj, k2, if_neg (by omega), nz 45 _ (by decide)]
        · rw [lu_ne L _ (fun z => ht z.1)]
          have n3 : a' ≠ 44 := fun z => ht (tb2_inj (t := 45) (a := 44) (c := 200) (n := 2) rfl ht' z)
          have n4 : t' ≠ 44 := tb2_cell (t' := 45) (a' := 44) (c' := 200) (n' := 2) ht' rfl
          refine ⟨?_, d2, fun j hj => ?_⟩
          · rw [k1 (a', 0) i' (fun z => n1 (congrArg Prod.fst z)), nz a' i' n3]
            exact d1
          · rw [d3 j hj, k1 (t', 0) _ (fun z => ht (congrArg Prod.fst z)), nz t' _ n4]
  · have z := (ieq (n := 0) e4 rfl).mp h9
    exact List.eq_nil_of_length_eq_zero (by omega)
theorem rr_reply : sim_reply RR := by
  intro M1 M2 a hl1 hl2 hR
  obtain ⟨m1, L1, m2, L2, h1, h2, hE⟩ := hR
  refine pl_ses (fun h => ⟨fun h9 => absurd h9 (by decide), fun _ => ?_⟩) (fun h => ⟨fun _ => ?_, fun h9 => absurd rfl h9⟩)
  · obtain ⟨x, hx, hx2⟩ := i32_01 h
    refine ⟨x, hx, hx2, pl_takeFirst h1 (fun hq => ?_) (fun b q M1' hq h1' => ?_)⟩
    · refine mo_reply h2 hx hx2 (fun _ M2' h2' => ⟨rfl, m1, L1, _, L2, h1, h2', hE.thr⟩) (fun b q M2' hq' _ => ?_)
      rw [← (hE.ses hx2).2.1, hq] at hq'
      cases hq'
    · refine mo_reply h2 hx hx2 (fun hq' => ?_) (fun b' q' M2' hq' h2' => ?_)
      · rw [← (hE.ses hx2).2.1, hq] at hq'
        cases hq'
      · rw [← (hE.ses hx2).2.1, hq] at hq'
        injection hq' with e1 e2
        subst e1 e2
        refine ⟨rfl, m1, _, _, _, h1', h2', ?_⟩
        have hx' : x = 0 ∨ x = 1 := by omega
        rcases hx' with rfl | rfl
        · obtain ⟨hA, hB⟩ := hE
          exact ⟨⟨hA.1, rfl, hA.2.2⟩, hB⟩
        · obtain ⟨hA, hA', hB⟩ := hE
          exact ⟨hA, ⟨hA'.1, rfl, hA'.2.2⟩, hB⟩
  · rintro M rfl
    exact mo_ses (fun h9 => absurd h9 h) (fun _ => ⟨fun h9 => absurd rfl h9, fun _ => ⟨rfl, rr_clr M1 M2 ⟨m1, L1, m2, L2, h1, h2, hE⟩⟩⟩)
