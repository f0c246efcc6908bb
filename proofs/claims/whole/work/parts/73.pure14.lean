theorem nodeE_congr' {m1 m1' m2 m2' : MzM} {L1 L1' L2 L2' : MzV} {n : Nat} (k1 : mz_i m1' (3, n) 1 = mz_i m1 (3, n) 1) (k2 : mz_i m1' (3, n) 2 = mz_i m1 (3, n) 2) (k3 : mz_i m1' (3, n) 3 = mz_i m1 (3, n) 3) (k6 : mz_i m1' (3, n) 6 = mz_i m1 (3, n) 6) (e32 : mz_i m2' (32, 0) = mz_i m2 (32, 0)) (e33 : mz_i m2' (33, 0) = mz_i m2 (33, 0)) (e34 : mz_i m2' (34, 0) = mz_i m2 (34, 0)) (e35 : mz_i m2' (35, 0) = mz_i m2 (35, 0)) (e37 : mz_i m2' (37, 0) = mz_i m2 (37, 0)) (hl : L1 5 n = L2 38 n → L1' 5 n = L2' 38 n) (hz : mz_i m1 (3, n) 6 = 0 → (L2' 38 n).length = (L2 38 n).length) (h : nodeE m1 L1 m2 L2 n) : nodeE m1' L1' m2' L2' n := by
  unfold nodeE filE dirE at *
  rw [k1, k2, k3, k6, e32, e33, e34, e35, e37]
  obtain ⟨q1, q2, q3, q4, q5, q6⟩ := h
  refine ⟨q1, q2, q3, q4, q5, fun hf => ⟨hl (q6 hf).1, fun h6 => ?_, (q6 hf).2.2⟩⟩
  rw [hz h6]
  exact (q6 hf).2.1 h6
/-- the reference's plain places of a session that begins, its transfer aside -/
def bsM (m : MzM) (x : Nat) : MzM := mz_si (mz_si (mz_si (mz_si (mz_si (mz_si (mz_si (mz_si (mz_si m (39, 0) x 0) (40, 0) x 0) (42, 0) x 0) (46, 0) x 0) (47, 0) x 0) (48, 0) x (-1)) (49, 0) x 0) (50, 0) x (-1)) (51, 0) x 0
theorem mo_begin {x : Nat} {a : Int32} {M m : MzM} {L : MzV} {K : MzM → Prop} (h : A2 M m L) (ha : a.toInt = (x : Int)) (hx : x < 2) (hk : ∀ M', A2 M' (bsM m x) (lu L 43 x []) → wp_Mo_endTransfer a M' K) : wp_Mo_beginSession a M K := by
  refine ⟨x, ha, hx, ?_⟩
  rintro _ rfl
  refine ⟨x, ha, hx, ?_⟩
  rintro _ rfl
  refine ⟨x, ha, hx, ?_⟩
  rintro _ rfl
  refine ⟨x, ha, hx, ?_⟩
  rintro _ rfl
  refine ⟨x, ha, hx, ?_⟩
  rintro _ rfl
  refine ⟨x, ha, hx, ?_⟩
  rintro _ rfl
  refine ⟨x, ha, hx, ?_⟩
  rintro _ rfl
  refine ⟨x, ha, hx, ?_⟩
  rintro _ rfl
  refine ⟨x, ha, hx, ?_⟩
  rintro _ rfl
  refine ⟨x, ha, hx, ?_⟩
  rintro _ rfl
  have h1 := h.si (t := 39) (k := x) (v := 0) rfl
  have h2 := h1.si (t := 40) (k := x) (v := 0) rfl
  have h3 := h2.clr (t := 43) (i := x) rfl
  have h4 := h3.si (t := 42) (k := x) (v := 0) rfl
  have h5 := h4.si (t := 46) (k := x) (v := 0) rfl
  have h6 := h5.si (t := 47) (k := x) (v := 0) rfl
  have h7 := h6.si (t := 48) (k := x) (v := -1) rfl
  have h8 := h7.si (t := 49) (k := x) (v := 0) rfl
  have h9 := h8.si (t := 50) (k := x) (v := -1) rfl
  exact hk _ (h9.si (t := 51) (k := x) (v := 0) rfl)
/-- the reference's plain places of a session that was cut -/
def cutM (m : MzM) (x : Nat) : MzM := rEnd (bsM m x) x
/-- the class's plain places of a session that begins, its way aside -/
def soM (m : MzM) (x : Nat) : MzM := mz_si (mz_si (mz_si (mz_si (mz_si (mz_si (mz_si (mz_si (mz_si m (8, x) 7 0) (6, 0) x (-1)) (8, x) 8 0) (8, x) 9 0) (8, x) 10 (-1)) (8, x) 11 0) (12, x) 4 0) (12, x) 5 0) (12, x) 3 0
theorem pl_logOut {x : Nat} {M m : MzM} {L : MzV} {K : MzM → Prop} (h : A1 M m L) (hx : x < 2) (hme : mz_i m (8, x) 0 = Int32.ofNat x) (hk : ∀ M', A1 M' (mz_si (mz_si m (8, x) 7 0) (6, 0) x (-1)) L → K M') : wp_Ses_logOut x M K := by
  rintro _ rfl
  have h1 := h.si (o := (8, x)) (k := 7) (v := 0) rfl
  have e : (mz_i (mz_si M (8, x) 7 0) (8, x) 0).toInt = (x : Int) := by
    rw [h1.1 (8, x) 0 rfl, mz_ne_k (by decide), hme]
    exact itn (by omega)
  refine ⟨x, e, hx, ?_⟩
  rintro _ rfl
  exact hk _ (h1.si (o := (6, 0)) (k := x) (v := -1) rfl)
theorem pl_lineOver {x : Nat} {M m : MzM} {L : MzV} {K : MzM → Prop} (h : A1 M m L) (hk : ∀ M', A1 M' (mz_si (mz_si (mz_si m (12, x) 4 0) (12, x) 5 0) (12, x) 3 0) (lu L 13 x []) → K M') : wp_Lin_startOver x M K := by
  rintro _ rfl _ rfl _ rfl _ rfl
  have h1 := h.si (o := (12, x)) (k := 4) (v := 0) rfl
  have h2 := h1.si (o := (12, x)) (k := 5) (v := 0) rfl
  have h3 := h2.clr (t := 13) (i := x) rfl
  exact hk _ (h3.si (o := (12, x)) (k := 3) (v := 0) rfl)
theorem pl_startOver {x : Nat} {M mw : MzM} {Lw : MzV} {K : MzM → Prop} (hw : ∀ K' : MzM → Prop, (∀ M', A1 M' mw Lw → K' M') → wp_Way_end x M K') (hx : x < 2) (hme : mz_i mw (8, x) 0 = Int32.ofNat x) (hk : ∀ M', A1 M' (soM mw x) (lu Lw 13 x []) → K M') : wp_Ses_startOver x M K := by
  refine hw _ (fun M1 h1 => pl_logOut h1 hx hme (fun M2 h2 => ?_))
  rintro _ rfl _ rfl _ rfl _ rfl
  have h3 := h2.si (o := (8, x)) (k := 8) (v := 0) rfl
  have h4 := h3.si (o := (8, x)) (k := 9) (v := 0) rfl
  have h5 := h4.si (o := (8, x)) (k := 10) (v := -1) rfl
  have h6 := h5.si (o := (8, x)) (k := 11) (v := 0) rfl
  exact pl_lineOver h6 (fun M3 h7 => hk M3 h7)
theorem pl_drop {x : Nat} {M mw : MzM} {Lw : MzV} {K : MzM → Prop} (hw : ∀ K' : MzM → Prop, (∀ M', A1 M' mw Lw → K' M') → wp_Way_end x M K') (hx : x < 2) (hme : mz_i mw (8, x) 0 = Int32.ofNat x) (hk : ∀ M', A1 M' (soM mw x) (lu (lu Lw 13 x []) 9 x []) → K M') : wp_Ses_drop x M K :=
  pl_startOver hw hx hme (fun M1 h1 => pl_clear h1 (fun M2 h2 => hk M2 h2))
/-- session 0 is dropped: what both memories become -/
theorem drop_0 {m1 m2 : MzM} {L1 L2 : MzV} (hE : EE m1 L1 m2 L2) : ∃ (m1' : MzM) (L1' L2' : MzV), EE m1' L1' (cutM m2 0) L2' ∧ (∀ (M1 : MzM) (K : MzM → Prop), A1 M1 m1 L1 → (∀ M', A1 M' m1' L1' → K M') → wp_Ses_drop 0 M1 K) ∧ (∀ (M2 g : MzM) (a : Int32) (K : MzM → Prop), a.toInt = ((0 : Nat) : Int) → (∀ t k : Nat, t ≠ 30 → mz_i g (t, 0) k = mz_i m2 (t, 0) k) → A2 M2 g L2 → (∀ M', A2 M' (cutM g 0) L2' → K M') → wp_Mo_cutSession a M2 K) ∧ (∀ k, mz_i m1' (22, 0) k = mz_i m1 (22, 0) k) ∧ (∀ n, mz_i m1' (3, n) 6 = mz_i m1 (3, n) 6) := by
  have hs := hE.1
  have hr := hE.2.2.2.2.1
  obtain ⟨hb, he⟩ := hE.2.2.2.1
  have ref : ∀ (L2' : MzV), (∀ (M2 g : MzM) (a : Int32) (K : MzM → Prop), a.toInt = ((0 : Nat) : Int) → (∀ t k : Nat, t ≠ 30 → mz_i g (t, 0) k = mz_i m2 (t, 0) k) → A2 M2 (bsM g 0) (lu L2 43 0 []) → (∀ M', A2 M' (cutM g 0) L2' → K M') → wp_Mo_endTransfer a M2 K) → (∀ (M2 g : MzM) (a : Int32) (K : MzM → Prop), a.toInt = ((0 : Nat) : Int) → (∀ t k : Nat, t ≠ 30 → mz_i g (t, 0) k = mz_i m2 (t, 0) k) → A2 M2 g L2 → (∀ M', A2 M' (cutM g 0) (lu L2' 45 0 []) → K M') → wp_Mo_cutSession a M2 K) := by
    intro L2' hh M2 g a K ha hg h hk
    refine mo_begin h ha (by decide) (fun M1 h1 => hh M1 g a _ ha hg h1 (fun M3 h3 => ⟨0, ha, by decide, ?_⟩))
    rintro _ rfl
    exact hk _ (h3.clr (t := 45) (i := 0) rfl)
  have hnone : mz_r m1 (16, 0) 4 = none → mz_i m2 (54, 0) 0 = -1 → (mz_i m2 (53, 0) 0 = 2 → mz_i m2 (55, 0) 0 = 0) → ∃ (m1' : MzM) (L1' L2' : MzV), EE m1' L1' (cutM m2 0) L2' ∧ (∀ (M1 : MzM) (K : MzM → Prop), A1 M1 m1 L1 → (∀ M', A1 M' m1' L1' → K M') → wp_Ses_drop 0 M1 K) ∧ (∀ (M2 g : MzM) (a : Int32) (K : MzM → Prop), a.toInt = ((0 : Nat) : Int) → (∀ t k : Nat, t ≠ 30 → mz_i g (t, 0) k = mz_i m2 (t, 0) k) → A2 M2 g L2 → (∀ M', A2 M' (cutM g 0) L2' → K M') → wp_Mo_cutSession a M2 K) ∧ (∀ k, mz_i m1' (22, 0) k = mz_i m1 (22, 0) k) ∧ (∀ n, mz_i m1' (3, n) 6 = mz_i m1 (3, n) 6) := by
    intro hf hf2 hh
    refine ⟨soM (wEnd m1 0) 0, lu (lu (lu L1 17 0 []) 13 0 []) 9 0 [], lu (lu L2 43 0 []) 45 0 [], ?_, ?_, ?_, fun _ => rfl, fun _ => rfl⟩
    · exact ⟨⟨hs.1, rfl, rfl, Or.inl ⟨rfl, rfl⟩, rfl, rfl, Or.inl ⟨rfl, rfl⟩, Or.inl ⟨rfl, rfl⟩, ⟨rfl, Or.inl rfl⟩, ⟨rfl, 0, by decide, rfl⟩, ⟨rfl, Or.inl ⟨rfl, rfl⟩⟩, ⟨rfl, Or.inl rfl⟩, rfl, rfl, rfl, Or.inl ⟨rfl, rfl, rfl, rfl, rfl, rfl⟩⟩, hE.2.1, fun n hn => nodeE_congr rfl rfl rfl rfl rfl rfl rfl rfl rfl rfl rfl (hE.2.2.1 n hn), ⟨bus_none (x := 0) (y := 1) (Or.inl ⟨rfl, rfl⟩) hb hf2 rfl rfl rfl (fun _ => rfl) (fun _ => rfl) (fun _ => rfl), ex_end (x := 0) (y := 1) (Or.inl ⟨rfl, rfl⟩) rfl⟩, hr, hE.2.2.2.2.2.1, hE.2.2.2.2.2.2.1, hE.2.2.2.2.2.2.2.1, hE.2.2.2.2.2.2.2.2⟩
    · intro M1 K h hk
      exact pl_drop (fun K' hk' => pl_way_none h hf hk') (by decide) hs.1 hk
    · refine ref (lu L2 43 0 []) (fun M2 g a K ha hg h hk => mo_end_n h ha (by decide) (fun z => ?_) hk)
      have z1 : mz_i g (53, 0) 0 = 2 := z
      have z2 : mz_i g (55, 0) 0 = 0 := by
        rw [hg 55 0 (by decide)]
        rw [hg 53 0 (by decide)] at z1
        exact hh z1
      exact z2
  obtain ⟨_, _, _, _, _, _, _, _, _, _, _, _, _, hmode, hheld, htr⟩ := hs
  have hs := hE.1
  rcases htr with ⟨t1, t2, t3, t4, t5, t6⟩ | ⟨t1, t2, t3, t4, t5⟩ | ⟨t1, t2, t3, t4, t5, n, t6, t7, t8⟩
  · exact hnone t2 t3 (fun z => absurd (t1.symm.trans z) (by decide))
  · rcases t5 with ⟨t5, t6⟩ | ⟨n, t6, t7, t8⟩
    · exact hnone t5 t6 (fun z => absurd (t1.symm.trans z) (by decide))
    · refine ⟨soM (wEnd (mz_si m1 (3, n) 4 (mz_i m1 (3, n) 4 - 1)) 0) 0, lu (lu (lu L1 17 0 []) 13 0 []) 9 0 [], lu (lu L2 43 0 []) 45 0 [], ?_, ?_, ?_, fun _ => rfl, fun n' => mz_ne_k (M := m1) (by decide)⟩
      · exact ⟨⟨hs.1, rfl, rfl, Or.inl ⟨rfl, rfl⟩, rfl, rfl, Or.inl ⟨rfl, rfl⟩, Or.inl ⟨rfl, rfl⟩, ⟨rfl, Or.inl rfl⟩, ⟨rfl, 0, by decide, rfl⟩, ⟨rfl, Or.inl ⟨rfl, rfl⟩⟩, ⟨rfl, Or.inl rfl⟩, rfl, rfl, rfl, Or.inl ⟨rfl, rfl, rfl, rfl, rfl, rfl⟩⟩, hE.2.1, fun n' hn => nodeE_congr (mz_ne_k (M := m1) (by decide)) (mz_ne_k (M := m1) (by decide)) (mz_ne_k (M := m1) (by decide)) (mz_ne_k (M := m1) (by decide)) rfl rfl rfl rfl rfl rfl rfl (hE.2.2.1 n' hn), ⟨bus_send (x := 0) (y := 1) (k := n) (Or.inl ⟨rfl, rfl⟩) hb t6.1 t1 t8 rfl rfl rfl (fun _ => rfl) (fun n' => mz_ne_k (M := m1) (by decide)) (fun n' => mz_ne_k (M := m1) (by decide)), ex_end (x := 0) (y := 1) (Or.inl ⟨rfl, rfl⟩) rfl⟩, ⟨hr.1, hr.2.1, (mz_ne_k (M := m1) (by decide)).trans hr.2.2⟩, hE.2.2.2.2.2.1, hE.2.2.2.2.2.2.1, hE.2.2.2.2.2.2.2.1, hE.2.2.2.2.2.2.2.2⟩
      · intro M1 K h hk
        exact pl_drop (fun K' hk' => pl_way_send h t6.1 t7 (hmode.trans t1) hk') (by decide) hs.1 hk
      · refine ref (lu L2 43 0 []) (fun M2 g a K ha hg h hk => mo_end_n h ha (by decide) (fun z => ?_) hk)
        have z1 : mz_i g (53, 0) 0 = 2 := z
        rw [hg 53 0 (by decide), t1] at z1
        exact absurd z1 (by decide)
  · have hu : ¬ mz_i m1 (3, n) 6 = 0 := by
      refine (hb n t6.1).2.2.2 ((hb n t6.1).2.2.1.mpr ?_)
      exact Or.inl ⟨t1, t8⟩
    by_cases hd : mz_i m2 (55, 0) 0 = 0
    · have hd1 : mz_i m1 (16, 0) 3 = 0 := hheld.trans hd
      refine ⟨soM (wEnd (mz_si m1 (3, n) 5 0) 0) 0, lu (lu (lu L1 17 0 []) 13 0 []) 9 0 [], lu (lu L2 43 0 []) 45 0 [], ?_, ?_, ?_, fun _ => rfl, fun n' => mz_ne_k (M := m1) (by decide)⟩
      · exact ⟨⟨hs.1, rfl, rfl, Or.inl ⟨rfl, rfl⟩, rfl, rfl, Or.inl ⟨rfl, rfl⟩, Or.inl ⟨rfl, rfl⟩, ⟨rfl, Or.inl rfl⟩, ⟨rfl, 0, by decide, rfl⟩, ⟨rfl, Or.inl ⟨rfl, rfl⟩⟩, ⟨rfl, Or.inl rfl⟩, rfl, rfl, rfl, Or.inl ⟨rfl, rfl, rfl, rfl, rfl, rfl⟩⟩, hE.2.1, fun n' hn => nodeE_congr (mz_ne_k (M := m1) (by decide)) (mz_ne_k (M := m1) (by decide)) (mz_ne_k (M := m1) (by decide)) (mz_ne_k (M := m1) (by decide)) rfl rfl rfl rfl rfl rfl rfl (hE.2.2.1 n' hn), ⟨bus_recv (x := 0) (y := 1) (k := n) (Or.inl ⟨rfl, rfl⟩) hb he t6.1 t1 t8 rfl rfl rfl (fun n' => mz_ne_k (M := m1) (by decide)) (fun _ => rfl) (fun n' _ => mz_ne_k (M := m1) (by decide)), ex_end (x := 0) (y := 1) (Or.inl ⟨rfl, rfl⟩) rfl⟩, ⟨hr.1, hr.2.1, (mz_ne_k (M := m1) (by decide)).trans hr.2.2⟩, hE.2.2.2.2.2.1, hE.2.2.2.2.2.2.1, hE.2.2.2.2.2.2.2.1, hE.2.2.2.2.2.2.2.2⟩
      · intro M1 K h hk
        refine pl_drop (mw := wEnd (mz_si m1 (3, n) 5 0) 0) (Lw := lu L1 17 0 []) (fun K' hk' => pl_way_recv h t6.1 t7 (hmode.trans t1) ?_) (by decide) hs.1 hk
        rw [if_pos hd1]
        exact hk'
      · refine ref (lu L2 43 0 []) (fun M2 g a K ha hg h hk => mo_end_n h ha (by decide) (fun _ => ?_) hk)
        have z2 : mz_i g (55, 0) 0 = 0 := by
          rw [hg 55 0 (by decide)]
          exact hd
        exact z2
    · have hd1 : ¬ mz_i m1 (16, 0) 3 = 0 := fun z => hd (hheld.symm.trans z)
      refine ⟨soM (wEnd (mz_si m1 (3, n) 5 0) 0) 0, lu (lu (lu (lu L1 5 n (row24 (L1 5 n) 13)) 17 0 []) 13 0 []) 9 0 [], lu (lu (lu L2 43 0 []) 38 n (row24 (L2 38 n) 13)) 45 0 [], ?_, ?_, ?_, fun _ => rfl, fun n' => mz_ne_k (M := m1) (by decide)⟩
      · refine ⟨⟨hs.1, rfl, rfl, Or.inl ⟨rfl, rfl⟩, rfl, rfl, Or.inl ⟨rfl, rfl⟩, Or.inl ⟨rfl, rfl⟩, ⟨rfl, Or.inl rfl⟩, ⟨rfl, 0, by decide, rfl⟩, ⟨rfl, Or.inl ⟨rfl, rfl⟩⟩, ⟨rfl, Or.inl rfl⟩, rfl, rfl, rfl, Or.inl ⟨rfl, rfl, rfl, rfl, rfl, rfl⟩⟩, hE.2.1, fun n' hn => nodeE_congr' (mz_ne_k (M := m1) (by decide)) (mz_ne_k (M := m1) (by decide)) (mz_ne_k (M := m1) (by decide)) (mz_ne_k (M := m1) (by decide)) rfl rfl rfl rfl rfl (fun z => ?_) (fun z => ?_) (hE.2.2.1 n' hn), ⟨bus_recv (x := 0) (y := 1) (k := n) (Or.inl ⟨rfl, rfl⟩) hb he t6.1 t1 t8 rfl rfl rfl (fun n' => mz_ne_k (M := m1) (by decide)) (fun _ => rfl) (fun n' _ => mz_ne_k (M := m1) (by decide)), ex_end (x := 0) (y := 1) (Or.inl ⟨rfl, rfl⟩) rfl⟩, ⟨hr.1, hr.2.1, (mz_ne_k (M := m1) (by decide)).trans hr.2.2⟩, hE.2.2.2.2.2.1, hE.2.2.2.2.2.2.1, hE.2.2.2.2.2.2.2.1, hE.2.2.2.2.2.2.2.2⟩
        · show lu L1 5 n (row24 (L1 5 n) 13) 5 n' = lu L2 38 n (row24 (L2 38 n) 13) 38 n'
          by_cases hnn : n' = n
          · subst hnn
            rw [lu_same, lu_same, z]
          · rw [lu_ne L1 _ (fun q => hnn q.2), lu_ne L2 _ (fun q => hnn q.2)]
            exact z
        · show (lu L2 38 n (row24 (L2 38 n) 13) 38 n').length = (L2 38 n').length
          by_cases hnn : n' = n
          · subst hnn
            exact absurd z hu
          · rw [lu_ne L2 _ (fun q => hnn q.2)]
      · intro M1 K h hk
        refine pl_drop (mw := wEnd (mz_si m1 (3, n) 5 0) 0) (Lw := lu (lu L1 5 n (row24 (L1 5 n) 13)) 17 0 []) (fun K' hk' => pl_way_recv h t6.1 t7 (hmode.trans t1) ?_) (by decide) hs.1 hk
        rw [if_neg hd1]
        exact hk'
      · refine ref (lu (lu L2 43 0 []) 38 n (row24 (L2 38 n) 13)) (fun M2 g a K ha hg h hk => mo_end_h (n := n) h ha (by decide) ?_ t6.1 ?_ ?_)
        · show mz_i g (53, 0) 0 = 2
          rw [hg 53 0 (by decide), t1]
        · show mz_i g (54, 0) 0 = Int32.ofNat n
          rw [hg 54 0 (by decide), t8]
        · have z2 : ¬ mz_i (bsM g 0) (55, 0) 0 = 0 := by
            show ¬ mz_i g (55, 0) 0 = 0
            rw [hg 55 0 (by decide)]
            exact hd
          rw [if_neg z2]
          exact hk
/-- session 1 is dropped: what both memories become -/
theorem drop_1 {m1 m2 : MzM} {L1 L2 : MzV} (hE : EE m1 L1 m2 L2) : ∃ (m1' : MzM) (L1' L2' : MzV), EE m1' L1' (cutM m2 1) L2' ∧ (∀ (M1 : MzM) (K : MzM → Prop), A1 M1 m1 L1 → (∀ M', A1 M' m1' L1' → K M') → wp_Ses_drop 1 M1 K) ∧ (∀ (M2 g : MzM) (a : Int32) (K : MzM → Prop), a.toInt = ((1 : Nat) : Int) → (∀ t k : Nat, t ≠ 30 → mz_i g (t, 0) k = mz_i m2 (t, 0) k) → A2 M2 g L2 → (∀ M', A2 M' (cutM g 1) L2' → K M') → wp_Mo_cutSession a M2 K) ∧ (∀ k, mz_i m1' (22, 0) k = mz_i m1 (22, 0) k) ∧ (∀ n, mz_i m1' (3, n) 6 = mz_i m1 (3, n) 6) := by
  have hs := hE.2.1
  have hr := hE.2.2.2.2.1
  obtain ⟨hb, he⟩ := hE.2.2.2.1
  have ref : ∀ (L2' : MzV), (∀ (M2 g : MzM) (a : Int32) (K : MzM → Prop), a.toInt = ((1 : Nat) : Int) → (∀ t k : Nat, t ≠ 30 → mz_i g (t, 0) k = mz_i m2 (t, 0) k) → A2 M2 (bsM g 1) (lu L2 43 1 []) → (∀ M', A2 M' (cutM g 1) L2' → K M') → wp_Mo_endTransfer a M2 K) → (∀ (M2 g : MzM) (a : Int32) (K : MzM → Prop), a.toInt = ((1 : Nat) : Int) → (∀ t k : Nat, t ≠ 30 → mz_i g (t, 0) k = mz_i m2 (t, 0) k) → A2 M2 g L2 → (∀ M', A2 M' (cutM g 1) (lu L2' 45 1 []) → K M') → wp_Mo_cutSession a M2 K) := by
    intro L2' hh M2 g a K ha hg h hk
    refine mo_begin h ha (by decide) (fun M1 h1 => hh M1 g a _ ha hg h1 (fun M3 h3 => ⟨1, ha, by decide, ?_⟩))
    rintro _ rfl
    exact hk _ (h3.clr (t := 45) (i := 1) rfl)
  have hnone : mz_r m1 (16, 1) 4 = none → mz_i m2 (54, 0) 1 = -1 → (mz_i m2 (53, 0) 1 = 2 → mz_i m2 (55, 0) 1 = 0) → ∃ (m1' : MzM) (L1' L2' : MzV), EE m1' L1' (cutM m2 1) L2' ∧ (∀ (M1 : MzM) (K : MzM → Prop), A1 M1 m1 L1 → (∀ M', A1 M' m1' L1' → K M') → wp_Ses_drop 1 M1 K) ∧ (∀ (M2 g : MzM) (a : Int32) (K : MzM → Prop), a.toInt = ((1 : Nat) : Int) → (∀ t k : Nat, t ≠ 30 → mz_i g (t, 0) k = mz_i m2 (t, 0) k) → A2 M2 g L2 → (∀ M', A2 M' (cutM g 1) L2' → K M') → wp_Mo_cutSession a M2 K) ∧ (∀ k, mz_i m1' (22, 0) k = mz_i m1 (22, 0) k) ∧ (∀ n, mz_i m1' (3, n) 6 = mz_i m1 (3, n) 6) := by
    intro hf hf2 hh
    refine ⟨soM (wEnd m1 1) 1, lu (lu (lu L1 17 1 []) 13 1 []) 9 1 [], lu (lu L2 43 1 []) 45 1 [], ?_, ?_, ?_, fun _ => rfl, fun _ => rfl⟩
    · exact ⟨hE.1, ⟨hs.1, rfl, rfl, Or.inl ⟨rfl, rfl⟩, rfl, rfl, Or.inl ⟨rfl, rfl⟩, Or.inl ⟨rfl, rfl⟩, ⟨rfl, Or.inl rfl⟩, ⟨rfl, 0, by decide, rfl⟩, ⟨rfl, Or.inl ⟨rfl, rfl⟩⟩, ⟨rfl, Or.inl rfl⟩, rfl, rfl, rfl, Or.inl ⟨rfl, rfl, rfl, rfl, rfl, rfl⟩⟩, fun n hn => nodeE_congr rfl rfl rfl rfl rfl rfl rfl rfl rfl rfl rfl (hE.2.2.1 n hn), ⟨bus_none (x := 1) (y := 0) (Or.inr ⟨rfl, rfl⟩) hb hf2 rfl rfl rfl (fun _ => rfl) (fun _ => rfl) (fun _ => rfl), ex_end (x := 1) (y := 0) (Or.inr ⟨rfl, rfl⟩) rfl⟩, hr, hE.2.2.2.2.2.1, hE.2.2.2.2.2.2.1, hE.2.2.2.2.2.2.2.1, hE.2.2.2.2.2.2.2.2⟩
    · intro M1 K h hk
      exact pl_drop (fun K' hk' => pl_way_none h hf hk') (by decide) hs.1 hk
    · refine ref (lu L2 43 1 []) (fun M2 g a K ha hg h hk => mo_end_n h ha (by decide) (fun z => ?_) hk)
      have z1 : mz_i g (53, 0) 1 = 2 := z
      have z2 : mz_i g (55, 0) 1 = 0 := by
        rw [hg 55 1 (by decide)]
        rw [hg 53 1 (by decide)] at z1
        exact hh z1
      exact z2
  obtain ⟨_, _, _, _, _, _, _, _, _, _, _, _, _, hmode, hheld, htr⟩ := hs
  have hs := hE.2.1
  rcases htr with ⟨t1, t2, t3, t4, t5, t6⟩ | ⟨t1, t2, t3, t4, t5⟩ | ⟨t1, t2, t3, t4, t5, n, t6, t7, t8⟩
  · exact hnone t2 t3 (fun z => absurd (t1.symm.trans z) (by decide))
  · rcases t5 with ⟨t5, t6⟩ | ⟨n, t6, t7, t8⟩
    · exact hnone t5 t6 (fun z => absurd (t1.symm.trans z) (by decide))
    · refine ⟨soM (wEnd (mz_si m1 (3, n) 4 (mz_i m1 (3, n) 4 - 1)) 1) 1, lu (lu (lu L1 17 1 []) 13 1 []) 9 1 [], lu (lu L2 43 1 []) 45 1 [], ?_, ?_, ?_, fun _ => rfl, fun n' => mz_ne_k (M := m1) (by decide)⟩
      · exact ⟨hE.1, ⟨hs.1, rfl, rfl, Or.inl ⟨rfl, rfl⟩, rfl, rfl, Or.inl ⟨rfl, rfl⟩, Or.inl ⟨rfl, rfl⟩, ⟨rfl, Or.inl rfl⟩, ⟨rfl, 0, by decide, rfl⟩, ⟨rfl, Or.inl ⟨rfl, rfl⟩⟩, ⟨rfl, Or.inl rfl⟩, rfl, rfl, rfl, Or.inl ⟨rfl, rfl, rfl, rfl, rfl, rfl⟩⟩, fun n' hn => nodeE_congr (mz_ne_k (M := m1) (by decide)) (mz_ne_k (M := m1) (by decide)) (mz_ne_k (M := m1) (by decide)) (mz_ne_k (M := m1) (by decide)) rfl rfl rfl rfl rfl rfl rfl (hE.2.2.1 n' hn), ⟨bus_send (x := 1) (y := 0) (k := n) (Or.inr ⟨rfl, rfl⟩) hb t6.1 t1 t8 rfl rfl rfl (fun _ => rfl) (fun n' => mz_ne_k (M := m1) (by decide)) (fun n' => mz_ne_k (M := m1) (by decide)), ex_end (x := 1) (y := 0) (Or.inr ⟨rfl, rfl⟩) rfl⟩, ⟨hr.1, hr.2.1, (mz_ne_k (M := m1) (by decide)).trans hr.2.2⟩, hE.2.2.2.2.2.1, hE.2.2.2.2.2.2.1, hE.2.2.2.2.2.2.2.1, hE.2.2.2.2.2.2.2.2⟩
      · intro M1 K h hk
        exact pl_drop (fun K' hk' => pl_way_send h t6.1 t7 (hmode.trans t1) hk') (by decide) hs.1 hk
      · refine ref (lu L2 43 1 []) (fun M2 g a K ha hg h hk => mo_end_n h ha (by decide) (fun z => ?_) hk)
        have z1 : mz_i g (53, 0) 1 = 2 := z
        rw [hg 53 1 (by decide), t1] at z1
        exact absurd z1 (by decide)
  · have hu : ¬ mz_i m1 (3, n) 6 = 0 := by
      refine (hb n t6.1).2.2.2 ((hb n t6.1).2.2.1.mpr ?_)
      exact Or.inr ⟨t1, t8⟩
    by_cases hd : mz_i m2 (55, 0) 1 = 0
    · have hd1 : mz_i m1 (16, 1) 3 = 0 := hheld.trans hd
      refine ⟨soM (wEnd (mz_si m1 (3, n) 5 0) 1) 1, lu (lu (lu L1 17 1 []) 13 1 []) 9 1 [], lu (lu L2 43 1 []) 45 1 [], ?_, ?_, ?_, fun _ => rfl, fun n' => mz_ne_k (M := m1) (by decide)⟩
      · exact ⟨hE.1, ⟨hs.1, rfl, rfl, Or.inl ⟨rfl, rfl⟩, rfl, rfl, Or.inl ⟨rfl, rfl⟩, Or.inl ⟨rfl, rfl⟩, ⟨rfl, Or.inl rfl⟩, ⟨rfl, 0, by decide, rfl⟩, ⟨rfl, Or.inl ⟨rfl, rfl⟩⟩, ⟨rfl, Or.inl rfl⟩, rfl, rfl, rfl, Or.inl ⟨rfl, rfl, rfl, rfl, rfl, rfl⟩⟩, fun n' hn => nodeE_congr (mz_ne_k (M := m1) (by decide)) (mz_ne_k (M := m1) (by decide)) (mz_ne_k (M := m1) (by decide)) (mz_ne_k (M := m1) (by decide)) rfl rfl rfl rfl rfl rfl rfl (hE.2.2.1 n' hn), ⟨bus_recv (x := 1) (y := 0) (k := n) (Or.inr ⟨rfl, rfl⟩) hb he t6.1 t1 t8 rfl rfl rfl (fun n' => mz_ne_k (M := m1) (by decide)) (fun _ => rfl) (fun n' _ => mz_ne_k (M := m1) (by decide)), ex_end (x := 1) (y := 0) (Or.inr ⟨rfl, rfl⟩) rfl⟩, ⟨hr.1, hr.2.1, (mz_ne_k (M := m1) (by decide)).trans hr.2.2⟩, hE.2.2.2.2.2.1, hE.2.2.2.2.2.2.1, hE.2.2.2.2.2.2.2.1, hE.2.2.2.2.2.2.2.2⟩
      · intro M1 K h hk
        refine pl_drop (mw := wEnd (mz_si m1 (3, n) 5 0) 1) (Lw := lu L1 17 1 []) (fun K' hk' => pl_way_recv h t6.1 t7 (hmode.trans t1) ?_) (by decide) hs.1 hk
        rw [if_pos hd1]
        exact hk'
      · refine ref (lu L2 43 1 []) (fun M2 g a K ha hg h hk => mo_end_n h ha (by decide) (fun _ => ?_) hk)
        have z2 : mz_i g (55, 0) 1 = 0 := by
          rw [hg 55 1 (by decide)]
          exact hd
        exact z2
    · have hd1 : ¬ mz_i m1 (16, 1) 3 = 0 := fun z => hd (hheld.symm.trans z)
      refine ⟨soM (wEnd (mz_si m1 (3, n) 5 0) 1) 1, lu (lu (lu (lu L1 5 n (row24 (L1 5 n) 13)) 17 1 []) 13 1 []) 9 1 [], lu (lu (lu L2 43 1 []) 38 n (row24 (L2 38 n) 13)) 45 1 [], ?_, ?_, ?_, fun _ => rfl, fun n' => mz_ne_k (M := m1) (by decide)⟩
      · refine ⟨hE.1, ⟨hs.1, rfl, rfl, Or.inl ⟨rfl, rfl⟩, rfl, rfl, Or.inl ⟨rfl, rfl⟩, Or.inl ⟨rfl, rfl⟩, ⟨rfl, Or.inl rfl⟩, ⟨rfl, 0, by decide, rfl⟩, ⟨rfl, Or.inl ⟨rfl, rfl⟩⟩, ⟨rfl, Or.inl rfl⟩, rfl, rfl, rfl, Or.inl ⟨rfl, rfl, rfl, rfl, rfl, rfl⟩⟩, fun n' hn => nodeE_congr' (mz_ne_k (M := m1) (by decide)) (mz_ne_k (M := m1) (by decide)) (mz_ne_k (M := m1) (by decide)) (mz_ne_k (M := m1) (by decide)) rfl rfl rfl rfl rfl (fun z => ?_) (fun z => ?_) (hE.2.2.1 n' hn), ⟨bus_recv (x := 1) (y := 0) (k := n) (Or.inr ⟨rfl, rfl⟩) hb he t6.1 t1 t8 rfl rfl rfl (fun n' => mz_ne_k (M := m1) (by decide)) (fun _ => rfl) (fun n' _ => mz_ne_k (M := m1) (by decide)), ex_end (x := 1) (y := 0) (Or.inr ⟨rfl, rfl⟩) rfl⟩, ⟨hr.1, hr.2.1, (mz_ne_k (M := m1) (by decide)).trans hr.2.2⟩, hE.2.2.2.2.2.1, hE.2.2.2.2.2.2.1, hE.2.2.2.2.2.2.2.1, hE.2.2.2.2.2.2.2.2⟩
        · show lu L1 5 n (row24 (L1 5 n) 13) 5 n' = lu L2 38 n (row24 (L2 38 n) 13) 38 n'
          by_cases hnn : n' = n
          · subst hnn
            rw [lu_same, lu_same, z]
          · rw [lu_ne L1 _ (fun q => hnn q.2), lu_ne L2 _ (fun q => hnn q.2)]
            exact z
        · show (lu L2 38 n (row24 (L2 38 n) 13) 38 n').length = (L2 38 n').length
          by_cases hnn : n' = n
          · subst hnn
            exact absurd z hu
          · rw [lu_ne L2 _ (fun q => hnn q.2)]
      · intro M1 K h hk
        refine pl_drop (mw := wEnd (mz_si m1 (3, n) 5 0) 1) (Lw := lu (lu L1 5 n (row24 (L1 5 n) 13)) 17 1 []) (fun K' hk' => pl_way_recv h t6.1 t7 (hmode.trans t1) ?_) (by decide) hs.1 hk
        rw [if_neg hd1]
        exact hk'
      · refine ref (lu (lu L2 43 1 []) 38 n (row24 (L2 38 n) 13)) (fun M2 g a K ha hg h hk => mo_end_h (n := n) h ha (by decide) ?_ t6.1 ?_ ?_)
        · show mz_i g (53, 0) 1 = 2
          rw [hg 53 1 (by decide), t1]
        · show mz_i g (54, 0) 1 = Int32.ofNat n
          rw [hg 54 1 (by decide), t8]
        · have z2 : ¬ mz_i (bsM g 1) (55, 0) 1 = 0 := by
            show ¬ mz_i g (55, 0) 1 = 0
            rw [hg 55 1 (by decide)]
            exact hd
          rw [if_neg z2]
          exact hk
