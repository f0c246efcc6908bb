theorem lq_splitP {D : va_G} {cl : List vw_C} {w1 w2 : va_W} {H : Heap} (h : va_P D cl (w1 ++ w2) H) : va_P D cl w1 H ∧ va_P D cl w2 H := by
  refine ⟨fun k q hq => h k q ?_, fun k q hq => h (w1.length + k) q ?_⟩
  · rw [List.getElem?_append_left (List.getElem?_eq_some_iff.mp hq).1]; exact hq
  · rw [List.getElem?_append_right (Nat.le_add_right _ _), Nat.add_sub_cancel_left]; exact hq
theorem lq_splitD {A : Nat → Prop} {w1 w2 : va_W} (h : va_D A (w1 ++ w2)) : va_D A w1 ∧ va_D A w2 ∧ ∀ (i j : Nat) (p q : Nat × va_E), w1[i]? = some p → w2[j]? = some q → p.1 ≠ q.1 := by
  have a1 : ∀ (k : Nat) (q : Nat × va_E), w1[k]? = some q → (w1 ++ w2)[k]? = some q := fun k q hq => by rw [List.getElem?_append_left (List.getElem?_eq_some_iff.mp hq).1]; exact hq
  have a2 : ∀ (k : Nat) (q : Nat × va_E), w2[k]? = some q → (w1 ++ w2)[w1.length + k]? = some q := fun k q hq => by rw [List.getElem?_append_right (Nat.le_add_right _ _), Nat.add_sub_cancel_left]; exact hq
  refine ⟨⟨fun i j p q hp hq he => h.1 i j p q (a1 i p hp) (a1 j q hq) he, fun k q hq => h.2 k q (a1 k q hq)⟩, ⟨fun i j p q hp hq he => ?_, fun k q hq => h.2 _ q (a2 k q hq)⟩, fun i j p q hp hq he => ?_⟩
  · have := h.1 _ _ p q (a2 i p hp) (a2 j q hq) he
    omega
  · have h1 := h.1 _ _ p q (a1 i p hp) (a2 j q hq) he
    have h2 := (List.getElem?_eq_some_iff.mp hp).1
    omega
theorem lq_joinP {D : va_G} {cl : List vw_C} {w1 w2 : va_W} {H : Heap} (h1 : va_P D cl w1 H) (h2 : va_P D cl w2 H) : va_P D cl (w1 ++ w2) H := by
  intro k q hq
  by_cases hk : k < w1.length
  · rw [List.getElem?_append_left hk] at hq; exact h1 k q hq
  · rw [List.getElem?_append_right (Nat.not_lt.mp hk)] at hq; exact h2 _ q hq
theorem lq_joinD {A : Nat → Prop} {w1 w2 : va_W} (h1 : va_D A w1) (h2 : va_D A w2) (h3 : ∀ (i j : Nat) (p q : Nat × va_E), w1[i]? = some p → w2[j]? = some q → p.1 ≠ q.1) : va_D A (w1 ++ w2) := by
  refine ⟨fun i j p q hp hq he => ?_, fun k q hq => ?_⟩
  · by_cases hi : i < w1.length
    · rw [List.getElem?_append_left hi] at hp
      by_cases hj : j < w1.length
      · rw [List.getElem?_append_left hj] at hq
        exact h1.1 i j p q hp hq he
      · rw [List.getElem?_append_right (Nat.not_lt.mp hj)] at hq
        exact absurd he (h3 _ _ p q hp hq)
    · rw [List.getElem?_append_right (Nat.not_lt.mp hi)] at hp
      by_cases hj : j < w1.length
      · rw [List.getElem?_append_left hj] at hq
        exact absurd he.symm (h3 _ _ q p hq hp)
      · rw [List.getElem?_append_right (Nat.not_lt.mp hj)] at hq
        have := h2.1 _ _ p q hp hq he
        omega
  · by_cases hk : k < w1.length
    · rw [List.getElem?_append_left hk] at hq; exact h1.2 k q hq
    · rw [List.getElem?_append_right (Nat.not_lt.mp hk)] at hq; exact h2.2 _ q hq
theorem lq_nilP {D : va_G} {cl : List vw_C} {H : Heap} : va_P D cl [] H := fun k q hq => by cases hq
theorem lq_nilD {A : Nat → Prop} : va_D A [] := ⟨(fun i j p q h => by cases h), (fun k q h => by cases h)⟩
theorem lq_know {b L : Nat} {xs : Nat → Int32} {p : Program} {s : State} {m : MethodId} {meth : Method} {c : Code} (C0 : lw_At p s m meth c b L xs) : ∃ D : va_G, va_K D vwCl [] s := by
  have ht := lq_all C0
  obtain ⟨c0, i0, k0⟩ := u_known (ws := mzAll) ht cl_0.2.1 (ht _ wb_PL)
  obtain ⟨c1, i1, k1⟩ := u_known (ws := mzAll) ht cl_1.2.1 (ht _ wb_Store)
  obtain ⟨c2, i2, k2⟩ := u_known (ws := mzAll) ht cl_2.2.1 (ht _ wb_Node)
  obtain ⟨c3, i3, k3⟩ := u_known (ws := mzAll) ht cl_3.2.1 (ht _ wb_Row)
  obtain ⟨c4, i4, k4⟩ := u_known (ws := mzAll) ht cl_4.2.1 (ht _ wb_Ses)
  obtain ⟨c5, i5, k5⟩ := u_known (ws := mzAll) ht cl_5.2.1 (ht _ wb_Rep)
  obtain ⟨c6, i6, k6⟩ := u_known (ws := mzAll) ht cl_6.2.1 (ht _ wb_Lin)
  obtain ⟨c7, i7, k7⟩ := u_known (ws := mzAll) ht cl_7.2.1 (ht _ wb_Path)
  obtain ⟨c8, i8, k8⟩ := u_known (ws := mzAll) ht cl_8.2.1 (ht _ wb_Way)
  obtain ⟨c9, i9, k9⟩ := u_known (ws := mzAll) ht cl_9.2.1 (ht _ wb_Cop)
  obtain ⟨c10, i10, k10⟩ := u_known (ws := mzAll) ht cl_10.2.1 (ht _ wb_Mo)
  refine ⟨(fun c => match c with | 0 => c0 | 1 => c1 | 2 => c2 | 3 => c3 | 4 => c4 | 5 => c5 | 6 => c6 | 7 => c7 | 8 => c8 | 9 => c9 | _ => c10, fun c => match c with | 0 => i0 | 1 => i1 | 2 => i2 | 3 => i3 | 4 => i4 | 5 => i5 | 6 => i6 | 7 => i7 | 8 => i8 | 9 => i9 | _ => i10), fun c q hq => ?_, fun k q hq => by cases hq⟩
  match c, hq with
  | 0, hq => cases hq; exact k0
  | 1, hq => cases hq; exact k1
  | 2, hq => cases hq; exact k2
  | 3, hq => cases hq; exact k3
  | 4, hq => cases hq; exact k4
  | 5, hq => cases hq; exact k5
  | 6, hq => cases hq; exact k6
  | 7, hq => cases hq; exact k7
  | 8, hq => cases hq; exact k8
  | 9, hq => cases hq; exact k9
  | 10, hq => cases hq; exact k10
  | c + 11, hq => cases hq
set_option maxHeartbeats 8000000 in
theorem lq_enter {R : MzM → MzM → Prop} (hS : mzSim R) (hk : wp_Mo_beginSession 0 mzA2 (fun M1 => wp_Mo_beginSession 1 M1 (fun M2 => R mzA1 M2))) {p : Program} {l : Launch} {e : Env} {s : State} {m : MethodId} {below : List Frame} {meth : Method} {c : Code} {b L : Nat} {xs : Nat → Int32} (hst : l.stackTraces = false) (hL : L ≤ 2560) (C0 : lw_At p s m meth c b L xs) : W p l e room_1 s m #[Value.ref b] below meth c s.heap [] 0 0 (lw_Z below #[Value.ref b] s) (entryFrame m ([Value.ref b] : List Value).toArray 7) := by
  have hN : ∀ w ∈ mzNl, w.before #[Value.ref b] s = true := flat_of_before narrow_1 (by
    have h := C0.2.2.2.2.2.2.2.2.2
    rw [Cond.before_and, Bool.and_eq_true] at h
    exact h.2)
  obtain ⟨D, hK0⟩ := lq_know C0
  have hro : mz_ro mzRo (D, mzRa #[Value.ref b] s) (lqA s) s s.heap := i_ro C0.2.2.2.2.2.1 hN D
  rw [lg_entry_eq]
  have hl := lv_entry [Value.ref b] (n := 7) (Nat.le_of_ble_eq_true rfl)
  refine lq_new (G := (D, mzRa #[Value.ref b] s)) (i := (0, 0)) (ws := []) (tys := []) C0 cl_0 d_L_0 wc_Law_8 wb_PL wn_PL (by decide) rfl hK0 lq_nilP lq_nilD va_S.rf (by decide) (by decide) (fun q1 H1 hP1 hD1 hS1 => ?_)
  rw [List.nil_append] at hP1 hD1
  refine lv_dup (pc := 0 + 3) C0.1 C0.2.1 d_L_3 rfl ?_
  have hI1 : mzI (D, mzRa #[Value.ref b] s) (mzB1 (0, 0) q1) (mz_nm mzM0 (0, 0)) (lqA s) s H1 [] := ⟨hK0, hP1, hD1, hS1, fun q hq => hq, hro⟩
  have ea : q1 = mz_ad (mzB1 (0, 0) q1) (0, 0) := (mzB1_ad (0, 0) q1).symm
  rw [show ([Value.ref q1, Value.ref q1] : List Value) = [Value.ref (mz_ad (mzB1 (0, 0) q1) (0, 0)), Value.ref (mz_ad (mzB1 (0, 0) q1) (0, 0))] by rw [← ea]]
  refine lq_init (i := (0, 0)) (wx := []) (d := 4) (m1 := 82) (m2 := 1556) (P := fun B' M' => mz_dm B' = mzPLa ++ mzPLb ∧ mz_ad B' (0, 0) = mz_ad (mzB1 (0, 0) q1) (0, 0) ∧ M' = mzA1) C0 hl.1 d_L_4 cs_PL_init wl_Law_35 wi_PL_init rfl rfl (Nat.le_of_ble_eq_true rfl) (by decide) (by decide) (by decide) hI1 (fun k q hq => by cases hq) (fun k x hq => by cases hq) (tc_PL_init (d := 0) (mzB1_wf _ _) rfl (fun B9 h1 h2 _ => ⟨rfl, h1, h2, rfl⟩)) ?_
  intro B1 M1 H2 locs2 hPB hI1' _ _
  obtain ⟨hdm1, had1, rfl⟩ := hPB
  rw [← had1]
  refine lv_astore_n C0.1 C0.2.1 d_L_7 rfl hl (by decide) rfl (fun ls1 hl1 => ?_)
  refine lq_new (G := (D, mzRa #[Value.ref b] s)) (i := (30, 0)) (ws := mz_w B1 mzA1) (tys := mz_ty B1) C0 cl_10 d_L_8 wc_Law_36 wb_Mo wn_Mo (by decide) rfl hI1'.1 hI1'.2.1 hI1'.2.2.1 hI1'.2.2.2.1 (by decide) (by decide) (fun q2 H3 hP3 hD3 hS3 => ?_)
  obtain ⟨hPa, hPb⟩ := lq_splitP hP3
  obtain ⟨-, hDb, hDc⟩ := lq_splitD hD3
  refine lv_dup (pc := 8 + 3) C0.1 C0.2.1 d_L_11 rfl ?_
  have hI2 : mzI (D, mzRa #[Value.ref b] s) (mzB1 (30, 0) q2) (mz_nm mzM0 (30, 0)) (lqA s) s H3 locs2 := ⟨hK0, hPb, hDb, hS3, fun q hq => hq, hro⟩
  have eb : q2 = mz_ad (mzB1 (30, 0) q2) (30, 0) := (mzB1_ad (30, 0) q2).symm
  rw [show ([Value.ref q2, Value.ref q2] : List Value) = [Value.ref (mz_ad (mzB1 (30, 0) q2) (30, 0)), Value.ref (mz_ad (mzB1 (30, 0) q2) (30, 0))] by rw [← eb]]
  refine lq_init (i := (30, 0)) (wx := mz_w B1 mzA1) (d := 3) (m1 := 30) (m2 := 1263) (P := fun B' M' => mz_dm B' = mzMoL ∧ mz_ad B' (30, 0) = mz_ad (mzB1 (30, 0) q2) (30, 0) ∧ mzLnk true M' ∧ R mzA1 M') C0 hl1.1 d_L_12 cs_Mo_init wl_Law_38 wi_Mo_init rfl rfl (Nat.le_of_ble_eq_true rfl) (by decide) (by decide) (by decide) hI2 hPa (fun k x hx j hj => by
    obtain ⟨k2, -, hk2⟩ := mz_pl (mz_nm mzM0 (30, 0)) hj
    exact hDc k k2 x _ hx hk2) (tc_Mo_init (d := 0) (mzB1_wf _ _) rfl hk (fun B9 M9 h1 h2 h3 h4 => ⟨rfl, h1, h2, h3, h4⟩)) ?_
  intro B2 M2 H4 locs4 hPB hI2' hPx hx
  obtain ⟨hdm2, had2, hL2, hR⟩ := hPB
  rw [← had2]
  refine lv_astore_n C0.1 C0.2.1 d_L_15 rfl hl1 (by decide) rfl (fun ls2 hl2 => ?_)
  refine lv_iconst C0.1 C0.2.1 d_L_16 (v := 1) (by decide) ?_
  have hI1'' : mzI (D, mzRa #[Value.ref b] s) B1 mzA1 (lqA s) s H4 locs4 := ⟨hI1'.1, hPx, hI1'.2.2.1, hI2'.2.2.2.1, fun q hq => hq, hro⟩
  have hPj := lq_joinP hI1''.2.1 hI2'.2.1
  have hDj := lq_joinD hI1''.2.2.1 hI2'.2.2.1 (fun i j p q hp hq => by
    obtain ⟨j2, hj2, he⟩ := mz_w_ad hq
    rw [← he]
    exact hx i p hp j2 hj2)
  refine va_newa (D := D) (cl := vwCl) (tys := []) (atype := .long) (ty := .long) (a0 := (1, .inr (.inl (fun _ => 0)))) (N' := 1) C0.1 C0.2.1 (lq_all C0 _ wa_long) rfl hK0 hPj hDj hI2'.2.2.2.1 (fun q hq => hq) (fun cA => rfl) (by decide) (by decide) (by decide) (by decide) (by decide) d_L_17 (fun q3 cA H5 hK5 hP5 hD5 hS5 => ?_)
  obtain ⟨hP6, hP7⟩ := lq_splitP hP5
  obtain ⟨hP8, hP9⟩ := lq_splitP hP6
  obtain ⟨hD6, hD7, hD8⟩ := lq_splitD hD5
  refine lv_astore_n C0.1 C0.2.1 d_L_19 rfl hl2 (by decide) rfl (fun ls3 hl3 => ?_)
  refine lv_iconst C0.1 C0.2.1 d_L_20 (v := 0) (by decide) ?_
  refine lv_istore C0.1 C0.2.1 d_L_21 hl3 (by decide) rfl (fun ls4 hl4 => ?_)
  have n1 : ∀ i ∈ mz_dm B1, mz_ad B1 i ≠ q3 := by
    intro i hi
    obtain ⟨k, -, hk⟩ := mz_pl mzA1 hi
    have hk' : (mz_w B1 mzA1 ++ mz_w B2 M2)[k]? = some (mz_ad B1 i, mz_ce B1 mzA1 i) := by rw [List.getElem?_append_left (List.getElem?_eq_some_iff.mp hk).1]; exact hk
    exact hD8 k 0 _ _ hk' rfl
  have n2 : ∀ i ∈ mz_dm B2, mz_ad B2 i ≠ q3 := by
    intro i hi
    obtain ⟨k, -, hk⟩ := mz_pl M2 hi
    have hk' : (mz_w B1 mzA1 ++ mz_w B2 M2)[(mz_w B1 mzA1).length + k]? = some (mz_ad B2 i, mz_ce B2 M2 i) := by rw [List.getElem?_append_right (Nat.le_add_right _ _), Nat.add_sub_cancel_left]; exact hk
    exact hD8 _ 0 _ _ hk' rfl
  have n3 : ∀ i ∈ mz_dm B1, ∀ j ∈ mz_dm B2, mz_ad B1 i ≠ mz_ad B2 j := by
    intro i hi j hj
    obtain ⟨k, -, hk⟩ := mz_pl mzA1 hi
    exact hx k _ hk j hj
  exact LqS.loc [(0, .ref b), (1, .ref (mz_ad B1 (0, 0))), (2, .ref (mz_ad B2 (30, 0))), (3, .ref q3), (4, .int (Int32.ofNat 0))] ⟨rfl, rfl, rfl, rfl, rfl, trivial⟩ (lq_loop hS (live_PL hdm1) (live_Mo hdm2) hL 512 0 mzA1 M2 0 (by omega) (by omega) lnk_A1 hL2 hR) p l e s m below meth c H5 locs4 _ _ ls4 hst C0 hl4 ⟨⟨hI1''.1, hP8, hI1''.2.2.1, hS5, fun q hq => hq, hro⟩, ⟨hI2'.1, hP9, hI2'.2.2.1, hS5, fun q hq => hq, hro⟩, ⟨hP7, hK5, hD7.2 0 _ rfl, n1, (hP7 0 _ rfl).lt⟩, n2, n3⟩ (by decide) (by decide)
