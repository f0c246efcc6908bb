def lsE (m2 : MzM) (n : Nat) : Prop := ¬ mz_i m2 (32, 0) n = 0 ∧ ¬ mz_i m2 (33, 0) n = 0 ∧ mz_i m2 (37, 0) n = 0
theorem mo_crash_loop {m2 : MzM} {L2 : MzV} {K : MzM → Prop} (hk : ∀ M' L', A2 M' m2 L' → (∀ t n : Nat, ¬ t = 38 → L' t n = L2 t n) → (∀ n : Nat, 0 < n → n < 16 → (lsE m2 n → L' 38 n = tr4 (L2 38 n)) ∧ (¬ lsE m2 n → L' 38 n = L2 38 n)) → wp_Mo_loseTry M' K) : ∀ (r i : Nat) (M : MzM) (L : MzV), i + r = 16 → 1 ≤ i → A2 M m2 L → (∀ t n : Nat, ¬ t = 38 → L t n = L2 t n) → (∀ n : Nat, 0 < n → n < 16 → (n < i → lsE m2 n → L 38 n = tr4 (L2 38 n)) ∧ (¬ (n < i ∧ lsE m2 n) → L 38 n = L2 38 n)) → wp_Mo_crash_17 K (r + 1) (Int32.ofNat i) M := by
  intro r
  induction r with
  | zero =>
    intro i M L hi h1i h a4 a5
    have hi' : i = 16 := by omega
    subst hi'
    exact ⟨fun _ => hk M L h a4 (fun n h0 hn => ⟨fun z => (a5 n h0 hn).1 hn z, fun z => (a5 n h0 hn).2 (fun q => z q.2)⟩), fun h9 => absurd (by decide) h9⟩
  | succ r ih =>
    intro i M L hi h1i h a4 a5
    obtain ⟨g1, g2⟩ := i32_of16 (show i < 16 by omega)
    have es : Int32.ofNat i + 1 = Int32.ofNat (i + 1) := i32_succ rfl
    have e5 : L 38 i = L2 38 i := (a5 i (by omega) (by omega)).2 (fun q => absurd q.1 (by omega))
    have nx : ¬ lsE m2 i → wp_Mo_crash_71 (wp_Mo_crash_17 K (r + 1)) K (Int32.ofNat i) M := by
      intro hno
      show wp_Mo_crash_17 K (r + 1) (Int32.ofNat i + 1) M
      rw [es]
      refine ih (i + 1) M L (by omega) (by omega) h a4 (fun n h0 hn => ⟨fun q1 q2 => ?_, fun q => ?_⟩)
      · by_cases hni : n = i
        · rw [hni] at q2
          exact absurd q2 hno
        · exact (a5 n h0 hn).1 (by omega) q2
      · by_cases hni : n = i
        · rw [hni]
          exact e5
        · exact (a5 n h0 hn).2 (fun z => q ⟨by omega, z.2⟩)
    have f1 := h.1 32 i rfl
    have f2 := h.1 33 i rfl
    have f3 := h.1 37 i rfl
    refine ⟨fun h9 => absurd h9 g1, fun _ => ⟨i, g2, by omega, fun z1 => nx (fun q => q.1 (f1.symm.trans z1)), fun z1 => ⟨i, g2, by omega, fun z2 => nx (fun q => q.2.1 (f2.symm.trans z2)), fun z2 => ⟨i, g2, by omega, fun z3 => nx (fun q => z3 (f3.trans q.2.2)), fun z3 => ⟨i, g2, by omega, i, g2, by omega, i, g2, by omega, ?_⟩⟩⟩⟩⟩
    have hyes : lsE m2 i := ⟨fun q => z1 (f1.trans q), fun q => z2 (f2.trans q), f3.symm.trans z3⟩
    obtain ⟨e1, e2, e3⟩ := h.2 38 36 24 16 i rfl (by omega)
    rintro _ rfl
    show wp_Mo_crash_17 K (r + 1) (Int32.ofNat i + 1) _
    rw [es, sub_mod4 e1 e2]
    have h1 := A2.cutl (t := 38) (i := i) (k := (L 38 i).length - (L 38 i).length % 4) h rfl (by omega) rfl
    refine ih (i + 1) _ _ (by omega) (by omega) h1 (fun t n ht => ?_) (fun n h0 hn => ⟨fun q1 q2 => ?_, fun q => ?_⟩)
    · rw [lu_ne L _ (fun z => ht z.1)]
      exact a4 t n ht
    · by_cases hni : n = i
      · subst hni
        rw [lu_same, e5]
        rfl
      · rw [lu_ne L _ (fun z => hni z.2)]
        exact (a5 n h0 hn).1 (by omega) q2
    · by_cases hni : n = i
      · rw [hni] at q
        exact absurd ⟨by omega, hyes⟩ q
      · rw [lu_ne L _ (fun z => hni z.2)]
        exact (a5 n h0 hn).2 (fun z => q ⟨by omega, z.2⟩)
theorem sesE_congr {m1 m1' m2 : MzM} {L1 L1' L2 L2' : MzV} {x : Nat} (e8 : mz_i m1' (8, x) = mz_i m1 (8, x)) (e12 : mz_i m1' (12, x) = mz_i m1 (12, x)) (e16 : mz_i m1' (16, x) = mz_i m1 (16, x)) (e6 : mz_i m1' (6, 0) = mz_i m1 (6, 0)) (r16 : mz_r m1' (16, x) 4 = mz_r m1 (16, x) 4) (l9 : L1' 9 x = L1 9 x) (l13 : L1' 13 x = L1 13 x) (l17 : L1' 17 x = L1 17 x) (l45 : L2' 45 x = L2 45 x) (l43 : L2' 43 x = L2 43 x) (l58 : L2' 58 x = L2 58 x) (h : sesE m1 L1 m2 L2 x) : sesE m1' L1' m2 L2' x := by
  unfold sesE trE at *
  rw [e8, e12, e16, e6, r16, l9, l13, l17, l45, l43, l58]
  exact h
theorem tr4_id {l : List Int32} (h : l.length % 4 = 0) : tr4 l = l := by
  unfold tr4
  rw [h]
  exact List.take_of_length_le (by omega)
theorem tr4_len (l : List Int32) : (tr4 l).length % 4 = 0 := by
  unfold tr4
  rw [List.length_take]
  omega
theorem ee_lose {m1 m1' m2 : MzM} {L1 L1' L2 L2' : MzV} (hE : EE m1 L1 m2 L2) (r0 : mz_i m2 (53, 0) 0 = 0) (r1 : mz_i m2 (53, 0) 1 = 0) (b1 : ∀ (p : MzL) (k : Nat), ¬ (p.1 = 3 ∧ k = 6) → mz_i m1' p k = mz_i m1 p k) (b2 : ∀ p k, mz_r m1' p k = mz_r m1 p k) (b3 : ∀ n : Nat, n < 16 → mz_i m1' (3, n) 6 = 0) (b4 : ∀ t n : Nat, ¬ t = 5 → L1' t n = L1 t n) (b5 : ∀ n : Nat, n < 16 → L1' 5 n = if mz_i m1 (3, n) 6 = 0 then L1 5 n else tr4 (L1 5 n)) (c4 : ∀ t n : Nat, ¬ t = 38 → L2' t n = L2 t n) (c5 : ∀ n : Nat, 0 < n → n < 16 → (lsE m2 n → L2' 38 n = tr4 (L2 38 n)) ∧ (¬ lsE m2 n → L2' 38 n = L2 38 n)) : EE m1' L1' m2 L2' := by
  have fn : ∀ t i : Nat, ¬ t = 3 → mz_i m1' (t, i) = mz_i m1 (t, i) := fun t i hp => funext (fun k => b1 (t, i) k (fun z => hp z.1))
  have sc : ∀ x, sesE m1 L1 m2 L2 x → sesE m1' L1' m2 L2' x := fun x => sesE_congr (fn 8 x (by decide)) (fn 12 x (by decide)) (fn 16 x (by decide)) (fn 6 0 (by decide)) (b2 _ _) (b4 _ _ (by decide)) (b4 _ _ (by decide)) (b4 _ _ (by decide)) (c4 _ _ (by decide)) (c4 _ _ (by decide)) (c4 _ _ (by decide))
  have f3 : ∀ n k, ¬ k = 6 → mz_i m1' (3, n) k = mz_i m1 (3, n) k := fun n k hk => b1 (3, n) k (fun z => hk z.2)
  refine ⟨sc 0 hE.1, sc 1 hE.2.1, fun n hn => ?_, ⟨fun n hn => ?_, hE.2.2.2.1.2⟩, ⟨hE.2.2.2.2.1.1, hE.2.2.2.2.1.2.1, (f3 0 2 (by decide)).trans hE.2.2.2.2.1.2.2⟩, hE.2.2.2.2.2.1, ?_, hE.2.2.2.2.2.2.2.1, fun k hk => ?_⟩
  · obtain ⟨q1, q2, q3, q4, q5, q6⟩ := hE.2.2.1 n hn
    refine ⟨q1, q2, (f3 n 1 (by decide)).trans q3, fun z1 z2 => ?_, fun z => (f3 n 3 (by decide)).trans (q5 z), fun hf => ?_⟩
    · obtain ⟨w1, w2⟩ := q4 z1 z2
      exact ⟨(f3 n 2 (by decide)).trans w1, w2⟩
    · have hn0 : 0 < n := by
        apply Nat.pos_of_ne_zero
        rintro rfl
        exact absurd (hf.2.2.symm.trans hE.2.2.2.2.1.1.2.2) (by decide)
      obtain ⟨w1, w2, w3⟩ := q6 hf
      have g1 : ¬ mz_i m2 (32, 0) n = 0 := by rw [hf.2.1]; decide
      have g2 : ¬ mz_i m2 (33, 0) n = 0 := by rw [hf.2.2]; decide
      rw [b3 n hn, b5 n hn]
      by_cases hu : mz_i m1 (3, n) 6 = 0
      · rw [if_pos hu]
        have e2 : L2' 38 n = L2 38 n := by
          rcases w2 hu with w | w
          · exact (c5 n hn0 hn).2 (fun z => absurd (z.2.2.symm.trans w) (by decide))
          · by_cases hl : lsE m2 n
            · rw [(c5 n hn0 hn).1 hl, tr4_id w]
            · exact (c5 n hn0 hn).2 hl
        rw [e2]
        exact ⟨w1, fun _ => w2 hu, fun z => absurd rfl z⟩
      · rw [if_neg hu, (c5 n hn0 hn).1 ⟨g1, g2, w3 hu⟩, w1]
        exact ⟨rfl, fun _ => Or.inr (tr4_len _), fun z => absurd rfl z⟩
  · obtain ⟨q1, q2, q3, q4⟩ := hE.2.2.2.1.1 n hn
    rw [f3 n 4 (by decide), f3 n 5 (by decide)]
    refine ⟨q1, q2, q3, fun z => ?_⟩
    rcases q3.mp z with w | w
    · exact absurd w (mv_zero r0 (by decide) n)
    · exact absurd w (mv_zero r1 (by decide) n)
  · have hc := hE.2.2.2.2.2.2.1
    have e22 := fn 22 0 (by decide)
    unfold copE at *
    rw [e22, b2]
    exact hc
  · rw [b4 21 k (by decide), c4 60 k (by decide)]
    exact hE.2.2.2.2.2.2.2.2 k hk
theorem rr_crash : sim_crash RR := by
  intro M1 M2 hl1 hl2 hR
  obtain ⟨m1, L1, m2, L2, h1, h2, hE⟩ := hR
  obtain ⟨m3, L3, L4, hE3, p1, p2, _⟩ := drop_0 hE.thr
  obtain ⟨m5, L5, L6, hE5, p3, p4, _⟩ := drop_1 hE3
  refine ⟨3, fun h9 => absurd h9 (by decide), fun _ => ⟨0, rfl, by decide, p1 M1 _ h1 (fun M3 h3 => ⟨fun h9 => absurd h9 (by decide), fun _ => ⟨1, rfl, by decide, p3 M3 _ h3 (fun M5 h5 => ⟨fun _ => ⟨17, ?_⟩, fun h9 => absurd (by decide) h9⟩)⟩⟩)⟩⟩
  refine pl_lose_loop (m1 := m5) (L1 := L5) (fun M7 m7 L7 h7 b1 b2 b3 b4 b5 => ?_) 16 0 M5 m5 L5 rfl h5 (fun _ _ _ => rfl) (fun _ _ => rfl) (fun n _ => by rw [if_neg (by omega)]) (fun _ _ _ => rfl) (fun n _ => by rw [if_neg (fun q => absurd q.1 (by omega))])
  refine pl_interrupt h7 (fun M9 h9 => ?_)
  have ref : ∀ K : MzM → Prop, (∀ (M8 : MzM) (L8 : MzV), A2 M8 (cutM (cutM (mz_si m2 (30, 0) 1 0) 0) 1) L8 → EE m7 L7 (cutM (cutM (mz_si m2 (30, 0) 1 0) 0) 1) L8 → wp_Mo_loseTry M8 K) → wp_Mo_crash M2 K := by
    intro K hK N hN
    have h2' : A2 N (mz_si m2 (30, 0) 1 0) L2 := by rw [hN]; exact h2.si (t := 30) rfl
    refine p2 N _ 0 _ rfl (fun _ _ _ => rfl) h2' (fun M4 h4 => p4 M4 _ 1 _ rfl (fun _ _ _ => rfl) h4 (fun M6 h6 => ⟨16, ?_⟩))
    exact mo_crash_loop (L2 := L6) (fun M8 L8 h8 c4 c5 => hK M8 L8 h8 (ee_lose hE5 rfl rfl b1 b2 b3 b4 b5 c4 c5)) 15 1 M6 L6 rfl (by omega) h6 (fun _ _ _ => rfl) (fun n h0 hn => ⟨fun q => absurd q (by omega), fun _ => rfl⟩)
  refine ref _ (fun M8 L8 h8 hE8 => ?_)
  obtain ⟨m4, hE4, q2⟩ := cop_int hE8
  exact q2 M8 _ h8 (fun M10 h10 => ⟨_, _, _, _, h9, h10, hE4⟩)
