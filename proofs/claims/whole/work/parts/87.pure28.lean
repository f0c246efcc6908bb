/-! the beginning -/
def zT (t : Nat) (M : MzM) : Prop := ∀ i k : Nat, mz_i M (t, i) k = 0
theorem zT_nm {t : Nat} {M : MzM} {o : MzL} (h : zT t M) : zT t (mz_nm M o) := by
  intro i k
  rw [mz_i_nm]
  split
  · rfl
  · exact h i k
theorem zT_sr {t k : Nat} {M : MzM} {o : MzL} {v : Option MzL} (h : zT t M) : zT t (mz_sr M o k v) := fun i j => h i j
theorem zT_si {t k : Nat} {M : MzM} {o : MzL} {v : Int32} (ho : o.1 ≠ t) (h : zT t M) : zT t (mz_si M o k v) := by
  intro i j
  rw [mz_i_si, if_neg (fun z => ho (by rw [← z.1]))]
  exact h i j
theorem zT_a1 {t : Nat} (h3 : 3 ≠ t) (h6 : 6 ≠ t) (h8 : 8 ≠ t) : zT t mzA1 := by
  have z0 : zT t mzM0 := fun _ _ => rfl
  unfold mzA1 fm_PL_init fm_PLB fm_Cop_init fm_Row_init20 fm_Ses_init fm_Way_init fm_Path_init fm_Lin_init fm_Rep_init fm_Store_init fm_StoreC
  simp only [fm_nodes, fm_Node_init, fm_Row_init4]
  repeat' first | exact z0 | apply zT_sr | apply zT_nm | exact h3 | exact h6 | exact h8 | apply zT_si
theorem zT_a2 {t : Nat} (h30 : 30 ≠ t) (h31 : 31 ≠ t) (h32 : 32 ≠ t) (h34 : 34 ≠ t) : zT t mzA2 := by
  have z0 : zT t mzM0 := fun _ _ => rfl
  unfold mzA2 fm_MoA
  repeat' first | exact z0 | apply zT_sr | apply zT_nm | exact h30 | exact h31 | exact h32 | exact h34 | apply zT_si
theorem a1_0 : A1 mzA1 mzA1 (fun _ _ => []) := by
  refine ⟨fun _ _ _ => rfl, fun _ _ => rfl, fun t a b c i ht => ?_, fun x => ⟨0, by decide, ?_, ?_, by simp, fun j hj => absurd hj (by simp)⟩⟩
  · have q := tb1_cases ht
    exact ⟨zT_a1 (t := a) (by omega) (by omega) (by omega) i b, Nat.zero_le _, fun j hj => absurd hj (by simp)⟩
  · exact zT_a1 (t := 9) (by decide) (by decide) (by decide) x 1
  · exact zT_a1 (t := 9) (by decide) (by decide) (by decide) x 2
theorem a2_0 : A2 mzA2 mzA2 (fun _ _ => []) := by
  refine ⟨fun _ _ _ => rfl, fun t a c n i ht hi => ?_⟩
  have q := tb2_cases ht
  exact ⟨zT_a2 (t := a) (by omega) (by omega) (by omega) (by omega) 0 i, Nat.zero_le _, fun j hj => absurd hj (by simp)⟩
def m20 : MzM := cutM (cutM mzA2 0) 1
theorem n1_0 : ∀ n : Nat, n < 16 → (¬ n = 0 → mz_i m20 (32, 0) n = 0) ∧ mz_i m20 (33, 0) n = 0 ∧ mz_i mzA1 (3, n) 1 = kdE (mz_i m20 (32, 0) n) (mz_i m20 (33, 0) n) ∧ mz_i mzA1 (3, n) 3 = mz_i m20 (35, 0) n ∧ mz_i mzA1 (3, n) 4 = Int32.ofNat (rdE m20 0 n + rdE m20 1 n) ∧ mz_i mzA1 (3, n) 5 = 0 := by decide +kernel
theorem r20 : mz_i m20 (53, 0) 0 = 0 ∧ mz_i m20 (53, 0) 1 = 0 ∧ mz_i m20 (32, 0) 0 = 1 ∧ mz_i m20 (34, 0) 0 = -1 ∧ mz_i mzA1 (3, 0) 2 = 0 ∧ mz_i mzA1 (22, 0) 2 = 0 ∧ mz_i m20 (30, 0) 38 = 0 := by decide +kernel
theorem w20 : ∀ v : Nat, v < 22 → mz_i m20 (31, 0) v = wdT.getD v 0 := by decide +kernel
theorem ses_0 : sesE mzA1 (fun _ _ => []) m20 (lu (lu (fun _ _ => []) 43 0 []) 43 1 []) 0 :=
  ⟨by decide +kernel, rfl, rfl, Or.inl ⟨by decide +kernel, by decide +kernel⟩, by decide +kernel, by decide +kernel, Or.inl ⟨by decide +kernel, by decide +kernel⟩, Or.inl ⟨by decide +kernel, by decide +kernel⟩, ⟨by decide +kernel, Or.inl (by decide +kernel)⟩, ⟨by decide +kernel, 0, by decide, by decide +kernel⟩, ⟨by decide +kernel, Or.inl ⟨by decide +kernel, by decide +kernel⟩⟩, ⟨by decide +kernel, Or.inl (by decide +kernel)⟩, by decide +kernel, by decide +kernel, by decide +kernel, Or.inl ⟨by decide +kernel, by decide +kernel, by decide +kernel, by decide +kernel, rfl, by decide +kernel⟩⟩
theorem ses_1 : sesE mzA1 (fun _ _ => []) m20 (lu (lu (fun _ _ => []) 43 0 []) 43 1 []) 1 :=
  ⟨by decide +kernel, rfl, rfl, Or.inl ⟨by decide +kernel, by decide +kernel⟩, by decide +kernel, by decide +kernel, Or.inl ⟨by decide +kernel, by decide +kernel⟩, Or.inl ⟨by decide +kernel, by decide +kernel⟩, ⟨by decide +kernel, Or.inl (by decide +kernel)⟩, ⟨by decide +kernel, 0, by decide, by decide +kernel⟩, ⟨by decide +kernel, Or.inl ⟨by decide +kernel, by decide +kernel⟩⟩, ⟨by decide +kernel, Or.inl (by decide +kernel)⟩, by decide +kernel, by decide +kernel, by decide +kernel, Or.inl ⟨by decide +kernel, by decide +kernel, by decide +kernel, by decide +kernel, rfl, by decide +kernel⟩⟩
theorem ee_0 : EE mzA1 (fun _ _ => []) m20 (lu (lu (fun _ _ => []) 43 0 []) 43 1 []) := by
  obtain ⟨r0, r1, d0, w0, p0, c1, c2⟩ := r20
  have d33 : mz_i m20 (33, 0) 0 = 0 := (n1_0 0 (by decide)).2.1
  refine ⟨ses_0, ses_1, fun n hn => ?_, ⟨fun n hn => ?_, fun n hn => ?_⟩, ⟨⟨by decide, d0, d33⟩, w0, p0⟩, ⟨fun _ => 0, fun n p hn h0 h1 => ?_⟩, ⟨⟨c1.trans c2.symm, Or.inl c2⟩, fun z => absurd (c2.symm.trans z) (by decide)⟩, w20, fun k hk => ?_⟩
  · obtain ⟨q1, q2, q3, q4, q5, q6⟩ := n1_0 n hn
    by_cases h0 : n = 0
    · subst h0
      exact ⟨Or.inr d0, Or.inl q2, q3, fun _ z => absurd rfl z, fun _ => q4, fun z => absurd (q2.symm.trans z.2.2) (by decide)⟩
    · have q7 := q1 h0
      exact ⟨Or.inl q7, Or.inl q2, q3, fun z => absurd (q7.symm.trans z) (by decide), fun _ => q4, fun z => absurd (q2.symm.trans z.2.2) (by decide)⟩
  · obtain ⟨q1, q2, q3, q4, q5, q6⟩ := n1_0 n hn
    refine ⟨q5, Or.inl q6, ⟨fun z => absurd (q6.symm.trans z) (by decide), fun z => ?_⟩, fun z => absurd (q6.symm.trans z) (by decide)⟩
    rcases z with z | z
    · exact absurd z (mv_zero r0 (by decide) n)
    · exact absurd z (mv_zero r1 (by decide) n)
  · exact ⟨fun z => mv_zero r0 (by decide) n z.1, fun z => mv_zero r1 (by decide) n z.1⟩
  · exact absurd ((n1_0 n hn).1 h0 |>.symm.trans h1) (by decide)
  · rfl
theorem rr_begin : wp_Mo_beginSession 0 mzA2 (fun M1 => wp_Mo_beginSession 1 M1 (fun M2 => RR mzA1 M2)) := by
  have e0 : ∀ m : MzM, mz_i m (53, 0) 0 = 0 → mz_i (bsM m 0) (53, 0) 0 = 2 → mz_i (bsM m 0) (55, 0) 0 = 0 := fun m h z => absurd (h.symm.trans z) (by decide)
  have e1 : ∀ m : MzM, mz_i m (53, 0) 1 = 0 → mz_i (bsM m 1) (53, 0) 1 = 2 → mz_i (bsM m 1) (55, 0) 1 = 0 := fun m h z => absurd (h.symm.trans z) (by decide)
  have z53 := zT_a2 (t := 53) (by decide) (by decide) (by decide) (by decide)
  refine mo_begin (x := 0) a2_0 rfl (by decide) (fun M1 h1 => mo_end_n h1 rfl (by decide) (e0 mzA2 (z53 0 0)) (fun M2 h2 => ?_))
  refine mo_begin (x := 1) h2 rfl (by decide) (fun M3 h3 => mo_end_n h3 rfl (by decide) (e1 (cutM mzA2 0) (z53 0 1)) (fun M4 h4 => ?_))
  exact ⟨_, _, _, _, a1_0, h4, ee_0⟩
