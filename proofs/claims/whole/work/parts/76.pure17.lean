theorem nodeE_sure {m1 m1' m2 m2' : MzM} {L1 L1' L2 L2' : MzV} {n k : Nat} (k1 : mz_i m1' (3, n) 1 = mz_i m1 (3, n) 1) (k2 : mz_i m1' (3, n) 2 = mz_i m1 (3, n) 2) (k3 : mz_i m1' (3, n) 3 = mz_i m1 (3, n) 3) (e32 : mz_i m2' (32, 0) = mz_i m2 (32, 0)) (e33 : mz_i m2' (33, 0) = mz_i m2 (33, 0)) (e34 : mz_i m2' (34, 0) = mz_i m2 (34, 0)) (e35 : mz_i m2' (35, 0) = mz_i m2 (35, 0)) (hne : ¬ n = k → mz_i m1' (3, n) 6 = mz_i m1 (3, n) 6 ∧ mz_i m2' (37, 0) n = mz_i m2 (37, 0) n ∧ (L2' 38 n).length = (L2 38 n).length) (heq : n = k → mz_i m1' (3, n) 6 = 0 ∧ mz_i m2' (37, 0) n = 1) (hl : L1 5 n = L2 38 n → L1' 5 n = L2' 38 n) (h : nodeE m1 L1 m2 L2 n) : nodeE m1' L1' m2' L2' n := by
  unfold nodeE filE dirE at *
  rw [k1, k2, k3, e32, e33, e34, e35]
  obtain ⟨q1, q2, q3, q4, q5, q6⟩ := h
  refine ⟨q1, q2, q3, q4, q5, fun hf => ⟨hl (q6 hf).1, ?_⟩⟩
  by_cases hk : n = k
  · obtain ⟨w1, w2⟩ := heq hk
    exact ⟨fun _ => Or.inl w2, fun z => absurd w1 z⟩
  · obtain ⟨w1, w2, w3⟩ := hne hk
    rw [w1, w2, w3]
    exact (q6 hf).2
theorem ee_none_0 {m1 m2 : MzM} {L1 L2 : MzV} (hE : EE m1 L1 m2 L2) (hf : mz_i m2 (54, 0) 0 = -1) : EE (wEnd m1 0) (lu L1 17 0 []) (rEnd m2 0) L2 := by
  obtain ⟨s1, s2, s3, s4, s5, s6, s7, s8, s9, s10, s11, s12, _, _, _, _⟩ := hE.1
  have hr := hE.2.2.2.2.1
  obtain ⟨hb, he⟩ := hE.2.2.2.1
  exact ⟨⟨s1, s2, s3, s4, s5, s6, s7, s8, s9, s10, s11, s12, rfl, rfl, rfl, Or.inl ⟨rfl, rfl, rfl, rfl, rfl, rfl⟩⟩, hE.2.1, fun n hn => nodeE_congr rfl rfl rfl rfl rfl rfl rfl rfl rfl rfl rfl (hE.2.2.1 n hn), ⟨bus_none (x := 0) (y := 1) (Or.inl ⟨rfl, rfl⟩) hb hf rfl rfl rfl (fun _ => rfl) (fun _ => rfl) (fun _ => rfl), ex_end (x := 0) (y := 1) (Or.inl ⟨rfl, rfl⟩) rfl⟩, hr, hE.2.2.2.2.2.1, hE.2.2.2.2.2.2.1, hE.2.2.2.2.2.2.2.1, hE.2.2.2.2.2.2.2.2⟩
theorem ee_send_0 {m1 m2 : MzM} {L1 L2 : MzV} {n : Nat} (hE : EE m1 L1 m2 L2) (hn : n < 16) (t1 : mz_i m2 (53, 0) 0 = 1) (t8 : mz_i m2 (54, 0) 0 = Int32.ofNat n) : EE (wEnd (mz_si m1 (3, n) 4 (mz_i m1 (3, n) 4 - 1)) 0) (lu L1 17 0 []) (rEnd m2 0) L2 := by
  obtain ⟨s1, s2, s3, s4, s5, s6, s7, s8, s9, s10, s11, s12, _, _, _, _⟩ := hE.1
  have hr := hE.2.2.2.2.1
  obtain ⟨hb, he⟩ := hE.2.2.2.1
  exact ⟨⟨s1, s2, s3, s4, s5, s6, s7, s8, s9, s10, s11, s12, rfl, rfl, rfl, Or.inl ⟨rfl, rfl, rfl, rfl, rfl, rfl⟩⟩, hE.2.1, fun n' hn' => nodeE_congr (mz_ne_k (M := m1) (by decide)) (mz_ne_k (M := m1) (by decide)) (mz_ne_k (M := m1) (by decide)) (mz_ne_k (M := m1) (by decide)) rfl rfl rfl rfl rfl rfl rfl (hE.2.2.1 n' hn'), ⟨bus_send (x := 0) (y := 1) (k := n) (Or.inl ⟨rfl, rfl⟩) hb hn t1 t8 rfl rfl rfl (fun _ => rfl) (fun n' => (mz_ne_k (M := m1) (by decide))) (fun n' => (mz_ne_k (M := m1) (by decide))), ex_end (x := 0) (y := 1) (Or.inl ⟨rfl, rfl⟩) rfl⟩, ⟨hr.1, hr.2.1, (mz_ne_k (M := m1) (by decide)).trans hr.2.2⟩, hE.2.2.2.2.2.1, hE.2.2.2.2.2.2.1, hE.2.2.2.2.2.2.2.1, hE.2.2.2.2.2.2.2.2⟩
theorem ee_recv0_0 {m1 m2 : MzM} {L1 L2 : MzV} {n : Nat} (hE : EE m1 L1 m2 L2) (hn : n < 16) (t1 : mz_i m2 (53, 0) 0 = 2) (t8 : mz_i m2 (54, 0) 0 = Int32.ofNat n) : EE (wEnd (mz_si m1 (3, n) 5 0) 0) (lu L1 17 0 []) (rEnd m2 0) L2 := by
  obtain ⟨s1, s2, s3, s4, s5, s6, s7, s8, s9, s10, s11, s12, _, _, _, _⟩ := hE.1
  have hr := hE.2.2.2.2.1
  obtain ⟨hb, he⟩ := hE.2.2.2.1
  exact ⟨⟨s1, s2, s3, s4, s5, s6, s7, s8, s9, s10, s11, s12, rfl, rfl, rfl, Or.inl ⟨rfl, rfl, rfl, rfl, rfl, rfl⟩⟩, hE.2.1, fun n' hn' => nodeE_congr (mz_ne_k (M := m1) (by decide)) (mz_ne_k (M := m1) (by decide)) (mz_ne_k (M := m1) (by decide)) (mz_ne_k (M := m1) (by decide)) rfl rfl rfl rfl rfl rfl rfl (hE.2.2.1 n' hn'), ⟨bus_recv (x := 0) (y := 1) (k := n) (Or.inl ⟨rfl, rfl⟩) hb he hn t1 t8 rfl rfl rfl (fun n' => (mz_ne_k (M := m1) (by decide))) (fun _ => rfl) (fun n' _ => (mz_ne_k (M := m1) (by decide))), ex_end (x := 0) (y := 1) (Or.inl ⟨rfl, rfl⟩) rfl⟩, ⟨hr.1, hr.2.1, (mz_ne_k (M := m1) (by decide)).trans hr.2.2⟩, hE.2.2.2.2.2.1, hE.2.2.2.2.2.2.1, hE.2.2.2.2.2.2.2.1, hE.2.2.2.2.2.2.2.2⟩
theorem ee_recv1_0 {m1 m2 : MzM} {L1 L2 : MzV} {n : Nat} (hE : EE m1 L1 m2 L2) (hn : n < 16) (t1 : mz_i m2 (53, 0) 0 = 2) (t8 : mz_i m2 (54, 0) 0 = Int32.ofNat n) : EE (wEnd (mz_si m1 (3, n) 5 0) 0) (lu (lu L1 5 n (row24 (L1 5 n) 13)) 17 0 []) (rEnd m2 0) (lu L2 38 n (row24 (L2 38 n) 13)) := by
  obtain ⟨s1, s2, s3, s4, s5, s6, s7, s8, s9, s10, s11, s12, _, _, _, _⟩ := hE.1
  have hr := hE.2.2.2.2.1
  obtain ⟨hb, he⟩ := hE.2.2.2.1
  have hu : ¬ mz_i m1 (3, n) 6 = 0 := (hb n hn).2.2.2 ((hb n hn).2.2.1.mpr (Or.inl ⟨t1, t8⟩))
  refine ⟨⟨s1, s2, s3, s4, s5, s6, s7, s8, s9, s10, s11, s12, rfl, rfl, rfl, Or.inl ⟨rfl, rfl, rfl, rfl, rfl, rfl⟩⟩, hE.2.1, fun n' hn' => nodeE_congr' (mz_ne_k (M := m1) (by decide)) (mz_ne_k (M := m1) (by decide)) (mz_ne_k (M := m1) (by decide)) (mz_ne_k (M := m1) (by decide)) rfl rfl rfl rfl rfl (fun z => ?_) (fun z => ?_) (hE.2.2.1 n' hn'), ⟨bus_recv (x := 0) (y := 1) (k := n) (Or.inl ⟨rfl, rfl⟩) hb he hn t1 t8 rfl rfl rfl (fun n' => (mz_ne_k (M := m1) (by decide))) (fun _ => rfl) (fun n' _ => (mz_ne_k (M := m1) (by decide))), ex_end (x := 0) (y := 1) (Or.inl ⟨rfl, rfl⟩) rfl⟩, ⟨hr.1, hr.2.1, (mz_ne_k (M := m1) (by decide)).trans hr.2.2⟩, hE.2.2.2.2.2.1, hE.2.2.2.2.2.2.1, hE.2.2.2.2.2.2.2.1, hE.2.2.2.2.2.2.2.2⟩
  · show lu L1 5 n (row24 (L1 5 n) 13) 5 n' = lu L2 38 n (row24 (L2 38 n) 13) 38 n'
    by_cases hnn : n' = n
    · subst hnn
      rw [lu_same, lu_same, z]
    · rw [lu_ne L1 _ (fun q => hnn q.2), lu_ne L2 _ (fun q => hnn q.2)]
      exact z
  · show (lu L2 38 n (row24 (L2 38 n) 13) 38 n').length = (L2 38 n').length
    by_cases hnn : n' = n
    · subst hnn
      exact absurd z hu
    · rw [lu_ne L2 _ (fun q => hnn q.2)]
theorem ee_fin_0 {m1 m2 : MzM} {L1 L2 : MzV} {n : Nat} {l1 l2 : List Int32} (hE : EE m1 L1 m2 L2) (hn : n < 16) (t1 : mz_i m2 (53, 0) 0 = 2) (t8 : mz_i m2 (54, 0) 0 = Int32.ofNat n) (hl : L1 5 n = L2 38 n → l1 = l2) : EE (wEnd (mz_si (mz_si m1 (3, n) 6 0) (3, n) 5 0) 0) (lu (lu L1 5 n l1) 17 0 []) (mz_si (rEnd m2 0) (37, 0) n 1) (lu L2 38 n l2) := by
  obtain ⟨s1, s2, s3, s4, s5, s6, s7, s8, s9, s10, s11, s12, _, _, _, _⟩ := hE.1
  have hr := hE.2.2.2.2.1
  obtain ⟨hb, he⟩ := hE.2.2.2.1
  have kk : ∀ (n' q : Nat), q ≠ 5 → q ≠ 6 → mz_i (mz_si (mz_si m1 (3, n) 6 0) (3, n) 5 0) (3, n') q = mz_i m1 (3, n') q := fun n' q h5 h6 => (mz_ne_k h5).trans (mz_ne_k h6)
  refine ⟨⟨s1, s2, s3, s4, s5, s6, s7, s8, s9, s10, s11, s12, rfl, rfl, rfl, Or.inl ⟨rfl, rfl, rfl, rfl, rfl, rfl⟩⟩, hE.2.1, fun n' hn' => nodeE_sure (m1 := m1) (m2 := m2) (L1 := L1) (L2 := L2) (k := n) (kk n' 1 (by decide) (by decide)) (kk n' 2 (by decide) (by decide)) (kk n' 3 (by decide) (by decide)) rfl rfl rfl rfl (fun hk => ⟨?_, ?_, ?_⟩) (fun hk => ⟨?_, ?_⟩) (fun z => ?_) (hE.2.2.1 n' hn'), ⟨bus_recv (x := 0) (y := 1) (k := n) (Or.inl ⟨rfl, rfl⟩) hb he hn t1 t8 rfl rfl rfl (fun n' => kk n' 4 (by decide) (by decide)) (fun n' => ?_) (fun n' hk => ?_), ex_end (x := 0) (y := 1) (Or.inl ⟨rfl, rfl⟩) rfl⟩, ⟨hr.1, hr.2.1, (kk 0 2 (by decide) (by decide)).trans hr.2.2⟩, hE.2.2.2.2.2.1, hE.2.2.2.2.2.2.1, hE.2.2.2.2.2.2.2.1, hE.2.2.2.2.2.2.2.2⟩
  · show mz_i (mz_si (mz_si m1 (3, n) 6 0) (3, n) 5 0) (3, n') 6 = mz_i m1 (3, n') 6
    rw [mz_ne_k (by decide), mz_i_si, if_neg (fun z => hk (congrArg Prod.snd z.1))]
  · show mz_i (mz_si (rEnd m2 0) (37, 0) n 1) (37, 0) n' = mz_i m2 (37, 0) n'
    rw [mz_i_si, if_neg (fun z => hk z.2)]
    rfl
  · rw [lu_ne L2 _ (fun q => hk q.2)]
  · show mz_i (mz_si (mz_si m1 (3, n) 6 0) (3, n) 5 0) (3, n') 6 = 0
    rw [mz_ne_k (by decide), mz_i_si, if_pos ⟨by rw [hk], rfl⟩]
  · rw [mz_i_si, if_pos ⟨rfl, hk⟩]
  · show lu L1 5 n l1 5 n' = lu L2 38 n l2 38 n'
    by_cases hnn : n' = n
    · subst hnn
      rw [lu_same, lu_same, hl z]
    · rw [lu_ne L1 _ (fun q => hnn q.2), lu_ne L2 _ (fun q => hnn q.2)]
      exact z
  · show mz_i (mz_si (mz_si m1 (3, n) 6 0) (3, n) 5 0) (3, n') 5 = mz_i (mz_si m1 (3, n) 5 0) (3, n') 5
    rw [mz_i_si (mz_si m1 (3, n) 6 0) (3, n) 5 0 (3, n') 5, mz_i_si m1 (3, n) 5 0 (3, n') 5, mz_ne_k (M := m1) (o := (3, n)) (p := (3, n')) (k := 6) (q := 5) (v := 0) (by decide)]
  · show mz_i (mz_si (mz_si m1 (3, n) 6 0) (3, n) 5 0) (3, n') 6 = mz_i m1 (3, n') 6
    rw [mz_ne_k (by decide), mz_i_si, if_neg (fun z => hk (congrArg Prod.snd z.1))]
theorem ee_q_0 {m1 m2 : MzM} {L1 L2 : MzV} (hE : EE m1 L1 m2 L2) (ds q : List Int32) : EE m1 (lu (lu L1 11 0 ds) 9 0 q) m2 (lu L2 45 0 q) := by
  obtain ⟨hA, hA', hB⟩ := hE
  exact ⟨⟨hA.1, rfl, hA.2.2⟩, hA', hB⟩
theorem ee_none_1 {m1 m2 : MzM} {L1 L2 : MzV} (hE : EE m1 L1 m2 L2) (hf : mz_i m2 (54, 0) 1 = -1) : EE (wEnd m1 1) (lu L1 17 1 []) (rEnd m2 1) L2 := by
  obtain ⟨s1, s2, s3, s4, s5, s6, s7, s8, s9, s10, s11, s12, _, _, _, _⟩ := hE.2.1
  have hr := hE.2.2.2.2.1
  obtain ⟨hb, he⟩ := hE.2.2.2.1
  exact ⟨hE.1, ⟨s1, s2, s3, s4, s5, s6, s7, s8, s9, s10, s11, s12, rfl, rfl, rfl, Or.inl ⟨rfl, rfl, rfl, rfl, rfl, rfl⟩⟩, fun n hn => nodeE_congr rfl rfl rfl rfl rfl rfl rfl rfl rfl rfl rfl (hE.2.2.1 n hn), ⟨bus_none (x := 1) (y := 0) (Or.inr ⟨rfl, rfl⟩) hb hf rfl rfl rfl (fun _ => rfl) (fun _ => rfl) (fun _ => rfl), ex_end (x := 1) (y := 0) (Or.inr ⟨rfl, rfl⟩) rfl⟩, hr, hE.2.2.2.2.2.1, hE.2.2.2.2.2.2.1, hE.2.2.2.2.2.2.2.1, hE.2.2.2.2.2.2.2.2⟩
theorem ee_send_1 {m1 m2 : MzM} {L1 L2 : MzV} {n : Nat} (hE : EE m1 L1 m2 L2) (hn : n < 16) (t1 : mz_i m2 (53, 0) 1 = 1) (t8 : mz_i m2 (54, 0) 1 = Int32.ofNat n) : EE (wEnd (mz_si m1 (3, n) 4 (mz_i m1 (3, n) 4 - 1)) 1) (lu L1 17 1 []) (rEnd m2 1) L2 := by
  obtain ⟨s1, s2, s3, s4, s5, s6, s7, s8, s9, s10, s11, s12, _, _, _, _⟩ := hE.2.1
  have hr := hE.2.2.2.2.1
  obtain ⟨hb, he⟩ := hE.2.2.2.1
  exact ⟨hE.1, ⟨s1, s2, s3, s4, s5, s6, s7, s8, s9, s10, s11, s12, rfl, rfl, rfl, Or.inl ⟨rfl, rfl, rfl, rfl, rfl, rfl⟩⟩, fun n' hn' => nodeE_congr (mz_ne_k (M := m1) (by decide)) (mz_ne_k (M := m1) (by decide)) (mz_ne_k (M := m1) (by decide)) (mz_ne_k (M := m1) (by decide)) rfl rfl rfl rfl rfl rfl rfl (hE.2.2.1 n' hn'), ⟨bus_send (x := 1) (y := 0) (k := n) (Or.inr ⟨rfl, rfl⟩) hb hn t1 t8 rfl rfl rfl (fun _ => rfl) (fun n' => (mz_ne_k (M := m1) (by decide))) (fun n' => (mz_ne_k (M := m1) (by decide))), ex_end (x := 1) (y := 0) (Or.inr ⟨rfl, rfl⟩) rfl⟩, ⟨hr.1, hr.2.1, (mz_ne_k (M := m1) (by decide)).trans hr.2.2⟩, hE.2.2.2.2.2.1, hE.2.2.2.2.2.2.1, hE.2.2.2.2.2.2.2.1, hE.2.2.2.2.2.2.2.2⟩
theorem ee_recv0_1 {m1 m2 : MzM} {L1 L2 : MzV} {n : Nat} (hE : EE m1 L1 m2 L2) (hn : n < 16) (t1 : mz_i m2 (53, 0) 1 = 2) (t8 : mz_i m2 (54, 0) 1 = Int32.ofNat n) : EE (wEnd (mz_si m1 (3, n) 5 0) 1) (lu L1 17 1 []) (rEnd m2 1) L2 := by
  obtain ⟨s1, s2, s3, s4, s5, s6, s7, s8, s9, s10, s11, s12, _, _, _, _⟩ := hE.2.1
  have hr := hE.2.2.2.2.1
  obtain ⟨hb, he⟩ := hE.2.2.2.1
  exact ⟨hE.1, ⟨s1, s2, s3, s4, s5, s6, s7, s8, s9, s10, s11, s12, rfl, rfl, rfl, Or.inl ⟨rfl, rfl, rfl, rfl, rfl, rfl⟩⟩, fun n' hn' => nodeE_congr (mz_ne_k (M := m1) (by decide)) (mz_ne_k (M := m1) (by decide)) (mz_ne_k (M := m1) (by decide)) (mz_ne_k (M := m1) (by decide)) rfl rfl rfl rfl rfl rfl rfl (hE.2.2.1 n' hn'), ⟨bus_recv (x := 1) (y := 0) (k := n) (Or.inr ⟨rfl, rfl⟩) hb he hn t1 t8 rfl rfl rfl (fun n' => (mz_ne_k (M := m1) (by decide))) (fun _ => rfl) (fun n' _ => (mz_ne_k (M := m1) (by decide))), ex_end (x := 1) (y := 0) (Or.inr ⟨rfl, rfl⟩) rfl⟩, ⟨hr.1, hr.2.1, (mz_ne_k (M := m1) (by decide)).trans hr.2.2⟩, hE.2.2.2.2.2.1, hE.2.2.2.2.2.2.1, hE.2.2.2.2.2.2.2.1, hE.2.2.2.2.2.2.2.2⟩
theorem ee_recv1_1 {m1 m2 : MzM} {L1 L2 : MzV} {n : Nat} (hE : EE m1 L1 m2 L2) (hn : n < 16) (t1 : mz_i m2 (53, 0) 1 = 2) (t8 : mz_i m2 (54, 0) 1 = Int32.ofNat n) : EE (wEnd (mz_si m1 (3, n) 5 0) 1) (lu (lu L1 5 n (row24 (L1 5 n) 13)) 17 1 []) (rEnd m2 1) (lu L2 38 n (row24 (L2 38 n) 13)) := by
  obtain ⟨s1, s2, s3, s4, s5, s6, s7, s8, s9, s10, s11, s12, _, _, _, _⟩ := hE.2.1
  have hr := hE.2.2.2.2.1
  obtain ⟨hb, he⟩ := hE.2.2.2.1
  have hu : ¬ mz_i m1 (3, n) 6 = 0 := (hb n hn).2.2.2 ((hb n hn).2.2.1.mpr (Or.inr ⟨t1, t8⟩))
  refine ⟨hE.1, ⟨s1, s2, s3, s4, s5, s6, s7, s8, s9, s10, s11, s12, rfl, rfl, rfl, Or.inl ⟨rfl, rfl, rfl, rfl, rfl, rfl⟩⟩, fun n' hn' => nodeE_congr' (mz_ne_k (M := m1) (by decide)) (mz_ne_k (M := m1) (by decide)) (mz_ne_k (M := m1) (by decide)) (mz_ne_k (M := m1) (by decide)) rfl rfl rfl rfl rfl (fun z => ?_) (fun z => ?_) (hE.2.2.1 n' hn'), ⟨bus_recv (x := 1) (y := 0) (k := n) (Or.inr ⟨rfl, rfl⟩) hb he hn t1 t8 rfl rfl rfl (fun n' => (mz_ne_k (M := m1) (by decide))) (fun _ => rfl) (fun n' _ => (mz_ne_k (M := m1) (by decide))), ex_end (x := 1) (y := 0) (Or.inr ⟨rfl, rfl⟩) rfl⟩, ⟨hr.1, hr.2.1, (mz_ne_k (M := m1) (by decide)).trans hr.2.2⟩, hE.2.2.2.2.2.1, hE.2.2.2.2.2.2.1, hE.2.2.2.2.2.2.2.1, hE.2.2.2.2.2.2.2.2⟩
  · show lu L1 5 n (row24 (L1 5 n) 13) 5 n' = lu L2 38 n (row24 (L2 38 n) 13) 38 n'
    by_cases hnn : n' = n
    · subst hnn
      rw [lu_same, lu_same, z]
    · rw [lu_ne L1 _ (fun q => hnn q.2), lu_ne L2 _ (fun q => hnn q.2)]
      exact z
  · show (lu L2 38 n (row24 (L2 38 n) 13) 38 n').length = (L2 38 n').length
    by_cases hnn : n' = n
    · subst hnn
      exact absurd z hu
    · rw [lu_ne L2 _ (fun q => hnn q.2)]
theorem ee_fin_1 {m1 m2 : MzM} {L1 L2 : MzV} {n : Nat} {l1 l2 : List Int32} (hE : EE m1 L1 m2 L2) (hn : n < 16) (t1 : mz_i m2 (53, 0) 1 = 2) (t8 : mz_i m2 (54, 0) 1 = Int32.ofNat n) (hl : L1 5 n = L2 38 n → l1 = l2) : EE (wEnd (mz_si (mz_si m1 (3, n) 6 0) (3, n) 5 0) 1) (lu (lu L1 5 n l1) 17 1 []) (mz_si (rEnd m2 1) (37, 0) n 1) (lu L2 38 n l2) := by
  obtain ⟨s1, s2, s3, s4, s5, s6, s7, s8, s9, s10, s11, s12, _, _, _, _⟩ := hE.2.1
  have hr := hE.2.2.2.2.1
  obtain ⟨hb, he⟩ := hE.2.2.2.1
  have kk : ∀ (n' q : Nat), q ≠ 5 → q ≠ 6 → mz_i (mz_si (mz_si m1 (3, n) 6 0) (3, n) 5 0) (3, n') q = mz_i m1 (3, n') q := fun n' q h5 h6 => (mz_ne_k h5).trans (mz_ne_k h6)
  refine ⟨hE.1, ⟨s1, s2, s3, s4, s5, s6, s7, s8, s9, s10, s11, s12, rfl, rfl, rfl, Or.inl ⟨rfl, rfl, rfl, rfl, rfl, rfl⟩⟩, fun n' hn' => nodeE_sure (m1 := m1) (m2 := m2) (L1 := L1) (L2 := L2) (k := n) (kk n' 1 (by decide) (by decide)) (kk n' 2 (by decide) (by decide)) (kk n' 3 (by decide) (by decide)) rfl rfl rfl rfl (fun hk => ⟨?_, ?_, ?_⟩) (fun hk => ⟨?_, ?_⟩) (fun z => ?_) (hE.2.2.1 n' hn'), ⟨bus_recv (x := 1) (y := 0) (k := n) (Or.inr ⟨rfl, rfl⟩) hb he hn t1 t8 rfl rfl rfl (fun n' => kk n' 4 (by decide) (by decide)) (fun n' => ?_) (fun n' hk => ?_), ex_end (x := 1) (y := 0) (Or.inr ⟨rfl, rfl⟩) rfl⟩, ⟨hr.1, hr.2.1, (kk 0 2 (by decide) (by decide)).trans hr.2.2⟩, hE.2.2.2.2.2.1, hE.2.2.2.2.2.2.1, hE.2.2.2.2.2.2.2.1, hE.2.2.2.2.2.2.2.2⟩
  · show mz_i (mz_si (mz_si m1 (3, n) 6 0) (3, n) 5 0) (3, n') 6 = mz_i m1 (3, n') 6
    rw [mz_ne_k (by decide), mz_i_si, if_neg (fun z => hk (congrArg Prod.snd z.1))]
  · show mz_i (mz_si (rEnd m2 1) (37, 0) n 1) (37, 0) n' = mz_i m2 (37, 0) n'
    rw [mz_i_si, if_neg (fun z => hk z.2)]
    rfl
  · rw [lu_ne L2 _ (fun q => hk q.2)]
  · show mz_i (mz_si (mz_si m1 (3, n) 6 0) (3, n) 5 0) (3, n') 6 = 0
    rw [mz_ne_k (by decide), mz_i_si, if_pos ⟨by rw [hk], rfl⟩]
  · rw [mz_i_si, if_pos ⟨rfl, hk⟩]
  · show lu L1 5 n l1 5 n' = lu L2 38 n l2 38 n'
    by_cases hnn : n' = n
    · subst hnn
      rw [lu_same, lu_same, hl z]
    · rw [lu_ne L1 _ (fun q => hnn q.2), lu_ne L2 _ (fun q => hnn q.2)]
      exact z
  · show mz_i (mz_si (mz_si m1 (3, n) 6 0) (3, n) 5 0) (3, n') 5 = mz_i (mz_si m1 (3, n) 5 0) (3, n') 5
    rw [mz_i_si (mz_si m1 (3, n) 6 0) (3, n) 5 0 (3, n') 5, mz_i_si m1 (3, n) 5 0 (3, n') 5, mz_ne_k (M := m1) (o := (3, n)) (p := (3, n')) (k := 6) (q := 5) (v := 0) (by decide)]
  · show mz_i (mz_si (mz_si m1 (3, n) 6 0) (3, n) 5 0) (3, n') 6 = mz_i m1 (3, n') 6
    rw [mz_ne_k (by decide), mz_i_si, if_neg (fun z => hk (congrArg Prod.snd z.1))]
theorem ee_q_1 {m1 m2 : MzM} {L1 L2 : MzV} (hE : EE m1 L1 m2 L2) (ds q : List Int32) : EE m1 (lu (lu L1 11 1 ds) 9 1 q) m2 (lu L2 45 1 q) := by
  obtain ⟨hA, hA', hB⟩ := hE
  exact ⟨hA, ⟨hA'.1, rfl, hA'.2.2⟩, hB⟩
theorem EE.s30 {m1 m2 : MzM} {L1 L2 : MzV} (h : EE m1 L1 m2 L2) (v : Int32) : EE m1 L1 (mz_si m2 (30, 0) 29 v) L2 := h
theorem EE.f30 {m1 m2 : MzM} {L1 L2 : MzV} (h : EE m1 L1 m2 L2) (v : Int32) : EE m1 L1 (mz_si m2 (30, 0) 30 v) L2 := h
theorem EE.c30 {m1 m2 : MzM} {L1 L2 : MzV} (h : EE m1 L1 m2 L2) (v : Int32) : EE m1 L1 (mz_si m2 (30, 0) 1 v) L2 := h
theorem dg226 : dg 226 = dgo 226 := by decide
theorem dg426 : dg 426 = dgo 426 := by decide
