/-! receiving begins -/
def rc1 (m : MzM) (x n : Nat) (asc : Int32) : MzM := mz_si (mz_si (mz_si (mz_sr (mz_si m (16, x) 1 2) (16, x) 4 (some (3, n))) (16, x) 2 asc) (3, n) 5 1) (3, n) 6 1
def rc2 (m : MzM) (x n : Nat) : MzM := mz_si (mz_si (mz_si (mz_si m (37, 0) n 0) (53, 0) x 2) (54, 0) x (Int32.ofNat n)) (55, 0) x 0
theorem rc1_k (m : MzM) (x n i : Nat) (asc : Int32) {q : Nat} (h5 : ¬ q = 5) (h6 : ¬ q = 6) : mz_i (rc1 m x n asc) (3, i) q = mz_i m (3, i) q := by
  unfold rc1
  rw [mz_ne_k h6, mz_ne_k h5]
  rfl
theorem rc1_o (m : MzM) (x : Nat) {n i : Nat} (asc : Int32) (h : ¬ i = n) (q : Nat) : mz_i (rc1 m x n asc) (3, i) q = mz_i m (3, i) q := by
  unfold rc1
  rw [mz_i_si, if_neg (fun z => h (congrArg Prod.snd z.1)), mz_i_si, if_neg (fun z => h (congrArg Prod.snd z.1))]
  rfl
theorem rc1_n (m : MzM) (x n : Nat) (asc : Int32) : mz_i (rc1 m x n asc) (3, n) 5 = 1 ∧ mz_i (rc1 m x n asc) (3, n) 6 = 1 := by
  unfold rc1
  refine ⟨?_, ?_⟩
  · rw [mz_ne_k (by decide), mz_i_si, if_pos ⟨rfl, rfl⟩]
  · rw [mz_i_si, if_pos ⟨rfl, rfl⟩]
theorem ee_rcv_0 {m1 m2 : MzM} {L1 L2 : MzV} {n : Nat} {l1 l2 : List Int32} (hE : EE m1 L1 m2 L2) (hf : filE m2 n) (hm : ¬ mvd m2 n) (r0 : mz_i m2 (53, 0) 0 = 0) (hl : l1 = l2) : EE (rc1 m1 0 n (mz_i m1 (8, 0) 8)) (lu L1 5 n l1) (rc2 m2 0 n) (lu L2 38 n l2) := by
  obtain ⟨s1, s2, s3, s4, s5, s6, s7, s8, s9, s10, s11, s12, s13, s14, s15, s16⟩ := hE.1
  have t16 : mz_i m2 (53, 0) 0 = 0 ∧ mz_r m1 (16, 0) 4 = none ∧ mz_i m2 (54, 0) 0 = -1 ∧ mz_i m2 (55, 0) 0 = 0 ∧ L1 17 0 = [] ∧ mz_i m1 (16, 0) 6 = 0 := by
    rcases s16 with t | ⟨t, _⟩ | ⟨t, _⟩
    · exact t
    · exact absurd (r0.symm.trans t) (by decide)
    · exact absurd (r0.symm.trans t) (by decide)
  have hn := hf.1
  obtain ⟨c5, c6⟩ := rc1_n m1 0 n (mz_i m1 (8, 0) 8)
  have kk : ∀ i q : Nat, ¬ q = 5 → ¬ q = 6 → mz_i (rc1 m1 0 n (mz_i m1 (8, 0) 8)) (3, i) q = mz_i m1 (3, i) q := fun i q h5 h6 => rc1_k m1 0 n i _ h5 h6
  have ko : ∀ i : Nat, ¬ i = n → ∀ q : Nat, mz_i (rc1 m1 0 n (mz_i m1 (8, 0) 8)) (3, i) q = mz_i m1 (3, i) q := fun i hi q => rc1_o m1 0 _ hi q
  have e37 : mz_i (rc2 m2 0 n) (37, 0) n = 0 := by
    show mz_i (mz_si m2 (37, 0) n 0) (37, 0) n = 0
    rw [mz_i_si, if_pos ⟨rfl, rfl⟩]
  have o37 : ∀ i : Nat, ¬ i = n → mz_i (rc2 m2 0 n) (37, 0) i = mz_i m2 (37, 0) i := by
    intro i hi
    show mz_i (mz_si m2 (37, 0) n 0) (37, 0) i = _
    rw [mz_i_si, if_neg (fun z => hi z.2)]
  have hxy : xyE 0 1 := Or.inl ⟨rfl, rfl⟩
  have no : ∀ i : Nat, i < 16 → mvE (rc2 m2 0 n) 0 i 2 → ¬ (mvE m2 1 i 1 ∨ mvE m2 1 i 2) := by
    intro i hi z w
    have e : n = i := ofN_inj (by omega) (by omega) z.2
    subst e
    rcases w with w | w
    · exact hm ⟨1, by decide, by rw [w.1]; decide, w.2⟩
    · exact hm ⟨1, by decide, by rw [w.1]; decide, w.2⟩
  refine ⟨⟨s1, s2, s3, s4, s5, s6, s7, s8, s9, s10, s11, s12, s13, rfl, s15.trans t16.2.2.2.1, Or.inr (Or.inr ⟨rfl, s12.1, fun _ => rfl, t16.2.2.2.2.1, t16.2.2.2.2.2, n, hf, rfl, rfl⟩)⟩, hE.2.1, fun i hi => ?_, ⟨fun i hi => ?_, fun i hi => ⟨fun z => no i hi z.1 (z.2), fun z => absurd z.2 (mv_zero (w := 2) rfl (by decide) i)⟩⟩, ⟨hE.2.2.2.2.1.1, hE.2.2.2.2.1.2.1, (kk 0 2 (by decide) (by decide)).trans hE.2.2.2.2.1.2.2⟩, hE.2.2.2.2.2.1, hE.2.2.2.2.2.2⟩
  · obtain ⟨q1, q2, q3, q4, q5, q6⟩ := hE.2.2.1 i hi
    refine ⟨q1, q2, (kk i 1 (by decide) (by decide)).trans q3, fun z z0 => ⟨(kk i 2 (by decide) (by decide)).trans (q4 z z0).1, (q4 z z0).2⟩, fun z => (kk i 3 (by decide) (by decide)).trans (q5 z), fun z => ?_⟩
    by_cases hin : i = n
    · subst hin
      rw [lu_same, lu_same, c6, e37]
      exact ⟨hl, fun z => absurd z (by decide), fun _ => rfl⟩
    · rw [lu_ne _ _ (fun y => hin y.2), lu_ne _ _ (fun y => hin y.2), ko i hin, o37 i hin]
      exact q6 z
  · obtain ⟨q1, q2, q3, q4⟩ := hE.2.2.2.1.1 i hi
    have n2 : ¬ mvE m2 0 i 2 := mv_zero r0 (by decide) i
    rw [mv_or hxy] at q3 ⊢
    rw [rd_sum hxy] at q1 ⊢
    have r1 : rdE (rc2 m2 0 n) 0 i = 0 := rd_zero (w := 2) rfl (by decide) i
    have r2 : rdE m2 0 i = 0 := rd_zero r0 (by decide) i
    have r3 : rdE (rc2 m2 0 n) 1 i = rdE m2 1 i := rd_same rfl rfl i
    refine ⟨by rw [r1, r3, kk i 4 (by decide) (by decide), q1, r2], ?_⟩
    by_cases hin : i = n
    · subst hin
      rw [c5, c6]
      exact ⟨Or.inr rfl, ⟨fun _ => Or.inl ⟨rfl, rfl⟩, fun _ => rfl⟩, fun _ => by decide⟩
    · rw [ko i hin, ko i hin]
      refine ⟨q2, ⟨fun z => (q3.mp z).elim (fun w => absurd w n2) (fun w => Or.inr w), fun z => q3.mpr (z.elim (fun w => ?_) (fun w => Or.inr w))⟩, q4⟩
      exact absurd (ofN_inj (by omega) (by omega) w.2).symm hin
theorem ee_rcv_1 {m1 m2 : MzM} {L1 L2 : MzV} {n : Nat} {l1 l2 : List Int32} (hE : EE m1 L1 m2 L2) (hf : filE m2 n) (hm : ¬ mvd m2 n) (r0 : mz_i m2 (53, 0) 1 = 0) (hl : l1 = l2) : EE (rc1 m1 1 n (mz_i m1 (8, 1) 8)) (lu L1 5 n l1) (rc2 m2 1 n) (lu L2 38 n l2) := by
  obtain ⟨s1, s2, s3, s4, s5, s6, s7, s8, s9, s10, s11, s12, s13, s14, s15, s16⟩ := hE.2.1
  have t16 : mz_i m2 (53, 0) 1 = 0 ∧ mz_r m1 (16, 1) 4 = none ∧ mz_i m2 (54, 0) 1 = -1 ∧ mz_i m2 (55, 0) 1 = 0 ∧ L1 17 1 = [] ∧ mz_i m1 (16, 1) 6 = 0 := by
    rcases s16 with t | ⟨t, _⟩ | ⟨t, _⟩
    · exact t
    · exact absurd (r0.symm.trans t) (by decide)
    · exact absurd (r0.symm.trans t) (by decide)
  have hn := hf.1
  obtain ⟨c5, c6⟩ := rc1_n m1 1 n (mz_i m1 (8, 1) 8)
  have kk : ∀ i q : Nat, ¬ q = 5 → ¬ q = 6 → mz_i (rc1 m1 1 n (mz_i m1 (8, 1) 8)) (3, i) q = mz_i m1 (3, i) q := fun i q h5 h6 => rc1_k m1 1 n i _ h5 h6
  have ko : ∀ i : Nat, ¬ i = n → ∀ q : Nat, mz_i (rc1 m1 1 n (mz_i m1 (8, 1) 8)) (3, i) q = mz_i m1 (3, i) q := fun i hi q => rc1_o m1 1 _ hi q
  have e37 : mz_i (rc2 m2 1 n) (37, 0) n = 0 := by
    show mz_i (mz_si m2 (37, 0) n 0) (37, 0) n = 0
    rw [mz_i_si, if_pos ⟨rfl, rfl⟩]
  have o37 : ∀ i : Nat, ¬ i = n → mz_i (rc2 m2 1 n) (37, 0) i = mz_i m2 (37, 0) i := by
    intro i hi
    show mz_i (mz_si m2 (37, 0) n 0) (37, 0) i = _
    rw [mz_i_si, if_neg (fun z => hi z.2)]
  have hxy : xyE 1 0 := Or.inr ⟨rfl, rfl⟩
  have no : ∀ i : Nat, i < 16 → mvE (rc2 m2 1 n) 1 i 2 → ¬ (mvE m2 0 i 1 ∨ mvE m2 0 i 2) := by
    intro i hi z w
    have e : n = i := ofN_inj (by omega) (by omega) z.2
    subst e
    rcases w with w | w
    · exact hm ⟨0, by decide, by rw [w.1]; decide, w.2⟩
    · exact hm ⟨0, by decide, by rw [w.1]; decide, w.2⟩
  refine ⟨hE.1, ⟨s1, s2, s3, s4, s5, s6, s7, s8, s9, s10, s11, s12, s13, rfl, s15.trans t16.2.2.2.1, Or.inr (Or.inr ⟨rfl, s12.1, fun _ => rfl, t16.2.2.2.2.1, t16.2.2.2.2.2, n, hf, rfl, rfl⟩)⟩, fun i hi => ?_, ⟨fun i hi => ?_, fun i hi => ⟨fun z => z.2.elim (fun w => absurd w (mv_zero (w := 2) rfl (by decide) i)) (fun w => no i hi w (Or.inr z.1)), fun z => no i hi z.1 (Or.inl z.2)⟩⟩, ⟨hE.2.2.2.2.1.1, hE.2.2.2.2.1.2.1, (kk 0 2 (by decide) (by decide)).trans hE.2.2.2.2.1.2.2⟩, hE.2.2.2.2.2.1, hE.2.2.2.2.2.2⟩
  · obtain ⟨q1, q2, q3, q4, q5, q6⟩ := hE.2.2.1 i hi
    refine ⟨q1, q2, (kk i 1 (by decide) (by decide)).trans q3, fun z z0 => ⟨(kk i 2 (by decide) (by decide)).trans (q4 z z0).1, (q4 z z0).2⟩, fun z => (kk i 3 (by decide) (by decide)).trans (q5 z), fun z => ?_⟩
    by_cases hin : i = n
    · subst hin
      rw [lu_same, lu_same, c6, e37]
      exact ⟨hl, fun z => absurd z (by decide), fun _ => rfl⟩
    · rw [lu_ne _ _ (fun y => hin y.2), lu_ne _ _ (fun y => hin y.2), ko i hin, o37 i hin]
      exact q6 z
  · obtain ⟨q1, q2, q3, q4⟩ := hE.2.2.2.1.1 i hi
    have n2 : ¬ mvE m2 1 i 2 := mv_zero r0 (by decide) i
    rw [mv_or hxy] at q3 ⊢
    rw [rd_sum hxy] at q1 ⊢
    have r1 : rdE (rc2 m2 1 n) 1 i = 0 := rd_zero (w := 2) rfl (by decide) i
    have r2 : rdE m2 1 i = 0 := rd_zero r0 (by decide) i
    have r3 : rdE (rc2 m2 1 n) 0 i = rdE m2 0 i := rd_same rfl rfl i
    refine ⟨by rw [r1, r3, kk i 4 (by decide) (by decide), q1, r2], ?_⟩
    by_cases hin : i = n
    · subst hin
      rw [c5, c6]
      exact ⟨Or.inr rfl, ⟨fun _ => Or.inl ⟨rfl, rfl⟩, fun _ => rfl⟩, fun _ => by decide⟩
    · rw [ko i hin, ko i hin]
      refine ⟨q2, ⟨fun z => (q3.mp z).elim (fun w => absurd w n2) (fun w => Or.inr w), fun z => q3.mpr (z.elim (fun w => ?_) (fun w => Or.inr w))⟩, q4⟩
      exact absurd (ofN_inj (by omega) (by omega) w.2).symm hin
theorem lu2_same (L : MzV) (t i : Nat) (l l' : List Int32) : lu (lu L t i l) t i l' = lu L t i l' := lu_lu L t i l l'
theorem pl_receive {x n k : Nat} {asc : Int32} {M m : MzM} {L : MzV} {K : MzM → Prop} (h : A1 M m L) (ha : asc = 0 ∨ asc = 1) (hk : k ≤ (L 5 n).length) (hK : ∀ M', A1 M' (rc1 m x n asc) (lu L 5 n ((L 5 n).take k)) → K M') : wp_Way_receiveFile x n (Int32.ofNat k) asc M K := by
  rintro _ rfl _ rfl
  refine ⟨ha, ?_⟩
  rintro _ rfl _ rfl _ rfl _ rfl
  exact hK _ ((((((h.si (o := (16, x)) (k := 1) (v := 2) rfl).sr (o := (16, x)) (k := 4) (v := some (3, n))).si (o := (16, x)) (k := 2) (v := asc) rfl).si (o := (3, n)) (k := 5) (v := 1) rfl).si (o := (3, n)) (k := 6) (v := 1) rfl).cutl (t := 5) (i := n) rfl hk rfl)
theorem pl_tsize {x : Nat} {tg : Int32} {M mo m1 m2 : MzM} {L L1 L2 : MzV} {K : Int32 → MzM → Prop} (h : A1 M mo L) (hN : ∀ n : Nat, n < 16 → nodeE mo L1 m2 L2 n) (e12 : mz_i mo (8, x) 12 = tg) (h1 : ∀ n : Nat, filE m2 n → tg = Int32.ofNat n → K (Int32.ofNat (L 5 n).length) M) (h0 : (∀ n : Nat, ¬ (filE m2 n ∧ tg = Int32.ofNat n)) → K 0 M) : wp_Ses_targetSize x M K := by
  have f12 : mz_i M (8, x) 12 = tg := (h.1 _ _ rfl).trans e12
  unfold wp_Ses_targetSize
  rw [f12]
  refine pl_isFile (m2 := m2) h hN (fun n hf etg => ⟨fun z => absurd z (by decide), fun _ => ⟨n, by rw [f12, etg]; exact itn (by have := hf.1; omega), hf.1, ?_⟩⟩) (fun hz => ⟨fun _ => h0 hz, fun z => absurd rfl z⟩)
  rw [(h.2.2.1 5 4 1 24 n rfl).1]
  exact h1 n hf etg
/-- the class where something new is to be received -/
theorem pl_rcvA {X k p : Nat} {pl nm asc : Int32} {M mo m1 m2 : MzM} {L L1 L2 : MzV} {K : Int32 → MzM → Prop} (h : A1 M mo L) (hN : ∀ n : Nat, n < 16 → nodeE mo L1 m2 L2 n) (hk24 : k ≤ 24) (e12 : mz_i mo (8, X) 12 = -1) (e13 : mz_i mo (8, X) 13 = Int32.ofNat p) (hp : p < 16) (e16 : mz_i mo (16, X) 0 = mz_i m2 (52, 0) X) (e8 : mz_i mo (8, X) 8 = asc) (ha : asc = 0 ∨ asc = 1) (hnm : lsI (L 15 X) = nm)
    (h425 : mz_i m2 (52, 0) X = 0 → K 425 M) (h554 : ¬ mz_i m2 (52, 0) X = 0 → ¬ k = 0 → K 554 M) (h552 : ¬ mz_i m2 (52, 0) X = 0 → k = 0 → frN m2 = -1 → K 552 M) (h150 : ¬ mz_i m2 (52, 0) X = 0 → k = 0 → ∀ n : Nat, n < 16 → ¬ n = 0 → mz_i m2 (32, 0) n = 0 → frN m2 = Int32.ofNat n → ∀ M', A1 M' (rc1 (mk1 mo n 2 (Int32.ofNat p) nm) X n asc) (lu L 5 n []) → K 150 M') : wp_Ses_receiveFile X (Int32.ofNat k) M K := by
  have f12 : mz_i M (8, X) 12 = -1 := (h.1 _ _ rfl).trans e12
  have f13 : mz_i M (8, X) 13 = Int32.ofNat p := (h.1 _ _ rfl).trans e13
  have f16 : mz_i M (16, X) 0 = mz_i m2 (52, 0) X := (h.1 _ _ rfl).trans e16
  have hpn : ¬ Int32.ofNat p = -1 := fun z => nneg hp z.symm
  have tk : (Int32.ofNat k).toInt = (k : Int) := itn (by omega)
  refine ⟨fun z => absurd (f13.symm.trans z) hpn, fun _ => ⟨fun _ => ⟨fun _ => ?_, fun z => absurd z (by decide)⟩, fun z => absurd z (by decide)⟩⟩
  unfold wp_Ses_receiveFile_62
  rw [f16]
  refine ⟨fun z => pl_tsize (m1 := mo) (tg := -1) h hN e12 (fun n hf e => absurd e (nneg hf.1)) (fun _ => ⟨fun y => ⟨fun w => absurd w (by decide), fun _ => pl_newName h ?_⟩, fun y => h554 z (fun w => y (by rw [w]; decide))⟩), fun z => h425 z⟩
  have k0 : k = 0 := by
    have := (ile (n := 0) tk rfl).mp y
    omega
  rw [f13, hnm]
  refine pl_make (m1 := mo) (L1 := L1) (L2 := L2) h hN (fun _ => rfl) (fun w => ⟨fun y => absurd rfl y, fun _ => h552 z k0 w⟩) (fun n hn hn0 hth hfr M' h' => ⟨fun _ => ⟨n, itn (by omega), hn, ?_⟩, fun y => absurd y.symm (nneg hn)⟩)
  have g8 : mz_i M' (8, X) 8 = asc := (h'.1 (8, X) 8 rfl).trans e8
  rw [g8, k0]
  refine pl_receive (k := 0) h' ha (Nat.zero_le _) (fun M2 h2 => h150 z k0 n hn hn0 hth hfr M2 ?_)
  rw [lu_lu] at h2
  exact h2
/-- the class where the file n is to be received anew -/
theorem pl_rcvB {X k n : Nat} {asc : Int32} {M mo m1 m2 : MzM} {L L1 L1' L2 : MzV} {K : Int32 → MzM → Prop} (h : A1 M mo L) (hE : EE m1 L1 m2 L2) (hN : ∀ n : Nat, n < 16 → nodeE mo L1' m2 L2 n) (hk24 : k ≤ 24) (e12 : mz_i mo (8, X) 12 = Int32.ofNat n) (e13 : mz_i mo (8, X) 13 = -1) (hf : filE m2 n) (e4 : mz_i mo (3, n) 4 = mz_i m1 (3, n) 4) (e5 : mz_i mo (3, n) 5 = mz_i m1 (3, n) 5) (e16 : mz_i mo (16, X) 0 = mz_i m2 (52, 0) X) (e8 : mz_i mo (8, X) 8 = asc) (ha : asc = 0 ∨ asc = 1)
    (h450 : mvd m2 n → K 450 M) (h425 : ¬ mvd m2 n → mz_i m2 (52, 0) X = 0 → K 425 M) (h554 : ¬ mvd m2 n → ¬ mz_i m2 (52, 0) X = 0 → ¬ k ≤ (L 5 n).length → K 554 M) (h150 : ¬ mvd m2 n → ¬ mz_i m2 (52, 0) X = 0 → k ≤ (L 5 n).length → ∀ M', A1 M' (rc1 mo X n asc) (lu L 5 n ((L 5 n).take k)) → K 150 M') : wp_Ses_receiveFile X (Int32.ofNat k) M K := by
  have hn := hf.1
  have f12 : mz_i M (8, X) 12 = Int32.ofNat n := (h.1 _ _ rfl).trans e12
  have f13 : mz_i M (8, X) 13 = -1 := (h.1 _ _ rfl).trans e13
  have f16 : mz_i M (16, X) 0 = mz_i m2 (52, 0) X := (h.1 _ _ rfl).trans e16
  have f8 : mz_i M (8, X) 8 = asc := (h.1 _ _ rfl).trans e8
  have tk : (Int32.ofNat k).toInt = (k : Int) := itn (by omega)
  have l24 : (L 5 n).length ≤ 24 := (h.2.2.1 5 4 1 24 n rfl).2.1
  have tl : (Int32.ofNat (L 5 n).length).toInt = ((L 5 n).length : Int) := itn (by omega)
  have uq : ∀ n' : Nat, filE m2 n' → Int32.ofNat n = Int32.ofNat n' → n' = n := fun n' hf' e => (ofN_inj (by omega) (by have := hf'.1; omega) e).symm
  refine ⟨fun _ => ⟨fun z => absurd rfl z, fun _ => ?_⟩, fun z => absurd f13 z⟩
  rw [f12]
  refine pl_isFile (m2 := m2) h hN (fun n' hf' e => ⟨fun _ => ⟨fun z => absurd rfl z, fun _ => ⟨n, by rw [f12]; exact itn (by omega), hn, ?_⟩⟩, fun z => absurd z (by decide)⟩) (fun hz => absurd ⟨hf, rfl⟩ (hz n))
  refine pl_isBusy (m1 := m1) (m2 := m2) (L1 := L1) (L2 := L2) h e4 e5 hE hn (fun hm => ⟨fun z => absurd z (by decide), fun _ => h450 hm⟩) (fun hm => ⟨fun _ => ?_, fun z => absurd rfl z⟩)
  unfold wp_Ses_receiveFile_62
  rw [f16]
  refine ⟨fun z => pl_tsize (m1 := mo) h hN e12 (fun n' hf' e => ?_) (fun hz => absurd ⟨hf, rfl⟩ (hz n)), fun z => h425 hm z⟩
  rw [uq n' hf' e]
  refine ⟨fun y => ⟨fun _ => ?_, fun w => absurd rfl w⟩, fun y => h554 hm z (fun w => y ((ile tk tl).mpr (by omega)))⟩
  have hkl : k ≤ (L 5 n).length := by
    have := (ile tk tl).mp y
    omega
  rw [f12]
  refine ⟨fun _ => ⟨n, itn (by omega), hn, ?_⟩, fun w => absurd w.symm (nneg hn)⟩
  rw [f8]
  exact pl_receive h ha hkl (fun M' h' => h150 hm z hkl M' h')
/-- the class where nothing can be received -/
theorem pl_rcvC {X : Nat} {y1 tg : Int32} {M mo m2 : MzM} {L L1 L2 : MzV} {K : Int32 → MzM → Prop} (h : A1 M mo L) (hN : ∀ n : Nat, n < 16 → nodeE mo L1 m2 L2 n) (e12 : mz_i mo (8, X) 12 = tg) (e13 : mz_i mo (8, X) 13 = -1) (hz : ∀ n : Nat, ¬ (filE m2 n ∧ tg = Int32.ofNat n)) (h550 : K 550 M) : wp_Ses_receiveFile X y1 M K := by
  have f12 : mz_i M (8, X) 12 = tg := (h.1 _ _ rfl).trans e12
  have f13 : mz_i M (8, X) 13 = -1 := (h.1 _ _ rfl).trans e13
  refine ⟨fun _ => ⟨fun z => absurd rfl z, fun _ => ?_⟩, fun z => absurd f13 z⟩
  rw [f12]
  exact pl_isFile (m2 := m2) h hN (fun n' hf' e => absurd ⟨hf', e⟩ (hz n')) (fun _ => ⟨fun z => absurd rfl z, fun _ => h550⟩)
/-! the reference -/
theorem mo_202 {X n k : Nat} {M m : MzM} {L : MzV} {K : MzM → Prop} (h : A2 M m L) (hs : (mz_i m (30, 0) 29).toInt = (X : Int)) (hX : X < 2) (hn : n < 16) (hk : k ≤ (L 38 n).length) (hK : ∀ M', A2 M' (rc2 m X n) (lu L 38 n ((L 38 n).take k)) → wp_Mo_answer 150 M' K) : wp_Mo_doTransfer_202 K (Int32.ofNat k) (Int32.ofNat n) M := by
  have tn : (Int32.ofNat n).toInt = (n : Int) := itn (by omega)
  have g : mz_i M (30, 0) 29 = mz_i m (30, 0) 29 := h.1 30 29 rfl
  have hs' : (mz_i M (30, 0) 29).toInt = (X : Int) := by rw [g]; exact hs
  refine ⟨n, tn, hn, ?_⟩
  rintro _ rfl
  refine ⟨n, tn, hn, ?_⟩
  rintro _ rfl
  refine ⟨X, hs', hX, ?_⟩
  rintro _ rfl
  refine ⟨X, hs', hX, ?_⟩
  rintro _ rfl
  refine ⟨X, hs', hX, ?_⟩
  rintro _ rfl
  exact hK _ (((((h.cutl (t := 38) (i := n) rfl hk rfl).si (t := 37) (k := n) (v := 0) rfl).si (t := 53) (k := X) (v := 2) rfl).si (t := 54) (k := X) (v := Int32.ofNat n) rfl).si (t := 55) (k := X) (v := 0) rfl)
theorem mo_rcvA {X k p : Nat} {v y2 nm : Int32} {M m m2 : MzM} {L : MzV} {K : MzM → Prop} (h : A2 M m L) (hs : (mz_i m (30, 0) 29).toInt = (X : Int)) (hX : X < 2) (hv : ¬ v = 12) (hk : (v = 14 ∧ k = 0) ∨ (¬ v = 14 ∧ y2 = Int32.ofNat k)) (hk24 : k ≤ 24) (e33 : mz_i m (30, 0) 33 = -1) (e34 : mz_i m (30, 0) 34 = Int32.ofNat p) (hp : p < 16) (e35 : mz_i m (30, 0) 35 = nm) (f32 : mz_i m (32, 0) = mz_i m2 (32, 0)) (f52 : mz_i m (52, 0) = mz_i m2 (52, 0))
    (h425 : mz_i m2 (52, 0) X = 0 → wp_Mo_answer 425 M K) (h554 : ¬ mz_i m2 (52, 0) X = 0 → ¬ k = 0 → wp_Mo_answer 554 M K) (h552 : ¬ mz_i m2 (52, 0) X = 0 → k = 0 → frN m2 = -1 → wp_Mo_answer 552 M K) (h150 : ¬ mz_i m2 (52, 0) X = 0 → k = 0 → ∀ n : Nat, n < 16 → ¬ n = 0 → mz_i m2 (32, 0) n = 0 → frN m2 = Int32.ofNat n → ∀ M', A2 M' (rc2 (mk2 m n 1 (Int32.ofNat p) nm 0) X n) (lu L 38 n []) → wp_Mo_answer 150 M' K) : wp_Mo_doTransfer v y2 M K := by
  have g33 : mz_i M (30, 0) 33 = -1 := (h.1 30 33 rfl).trans e33
  have g34 : mz_i M (30, 0) 34 = Int32.ofNat p := (h.1 30 34 rfl).trans e34
  have g29 : mz_i M (30, 0) 29 = mz_i m (30, 0) 29 := h.1 30 29 rfl
  have hs' : (mz_i M (30, 0) 29).toInt = (X : Int) := by rw [g29]; exact hs
  have g52 : mz_i M (52, 0) X = mz_i m2 (52, 0) X := (h.1 52 X rfl).trans (by rw [f52])
  have efr : frN m = frN m2 := by
    unfold frN
    rw [f32]
  have tk : (Int32.ofNat k).toInt = (k : Int) := itn (by omega)
  have go : wp_Mo_doTransfer_44 K 0 (Int32.ofNat k) M := by
    unfold wp_Mo_doTransfer_44
    rw [g33]
    refine ⟨fun z => absurd z (by decide), fun _ => mo_freeNode h ?_⟩
    rw [efr]
    unfold wp_Mo_doTransfer_64
    rw [g33, g34]
    refine ⟨fun _ => ⟨fun _ => ?_, fun z => absurd ((ile (m := 0) rfl (itn (n := p) (by omega))).mpr (by omega)) z⟩, fun z => absurd (by decide) z⟩
    unfold wp_Mo_doTransfer_106
    rw [g33]
    refine ⟨fun _ => ⟨X, hs', hX, ?_⟩, fun z => absurd (by decide) z⟩
    rw [g52]
    refine ⟨fun z => ⟨fun y => ?_, fun y => ⟨fun w => absurd w (by decide), fun _ => h554 z (fun w => y (by rw [w]; decide))⟩⟩, fun z => ⟨fun w => absurd w (by decide), fun _ => h425 z⟩⟩
    have k0 : k = 0 := by
      have := (ile (n := 0) tk rfl).mp y
      omega
    rcases frN_spec (m2 := m2) with w | ⟨n, hn, hn0, hth, hfr⟩
    · rw [w]
      exact ⟨fun q => absurd q (by decide), fun _ => ⟨fun q => absurd q (by decide), fun _ => h552 z k0 w⟩⟩
    · have tn : (Int32.ofNat n).toInt = (n : Int) := itn (by omega)
      rw [hfr]
      refine ⟨fun _ => ⟨fun _ => ?_, fun q => absurd (by decide) q⟩, fun q => absurd ((ile (m := 0) rfl tn).mpr (by omega)) q⟩
      rw [g33]
      refine ⟨fun q => absurd q (by decide), fun _ => mo_create (nm := nm) h tn hn e34 e35 (Or.inr rfl) (fun M' h' => ?_)⟩
      rw [k0]
      refine mo_202 (k := 0) h' hs hX hn (Nat.zero_le _) (fun M2 h2 => h150 z k0 n hn hn0 hth hfr M2 ?_)
      rw [lu_lu] at h2
      exact h2
  refine ⟨fun _ => ?_, fun z => absurd z hv⟩
  rw [g33]
  refine ⟨fun z => absurd z (by decide), fun _ => ?_⟩
  rcases hk with ⟨h1, h2⟩ | ⟨h1, h2⟩
  · refine ⟨fun z => absurd h1 z, fun _ => ?_⟩
    rw [h2] at go
    exact go
  · refine ⟨fun _ => ?_, fun z => absurd z h1⟩
    rw [h2]
    exact go
theorem mo_rcvB {X k n : Nat} {v y2 : Int32} {M m m2 : MzM} {L : MzV} {K : MzM → Prop} (h : A2 M m L) (hs : (mz_i m (30, 0) 29).toInt = (X : Int)) (hX : X < 2) (hv : ¬ v = 12) (hk : (v = 14 ∧ k = (L 38 n).length) ∨ (¬ v = 14 ∧ y2 = Int32.ofNat k)) (hk24 : k ≤ 24) (e33 : mz_i m (30, 0) 33 = Int32.ofNat n) (hf : filE m2 n) (f33 : mz_i m (33, 0) = mz_i m2 (33, 0)) (f52 : mz_i m (52, 0) = mz_i m2 (52, 0)) (f53 : mz_i m (53, 0) = mz_i m2 (53, 0)) (f54 : mz_i m (54, 0) = mz_i m2 (54, 0))
    (h450 : mvd m2 n → wp_Mo_answer 450 M K) (h425 : ¬ mvd m2 n → mz_i m2 (52, 0) X = 0 → wp_Mo_answer 425 M K) (h554 : ¬ mvd m2 n → ¬ mz_i m2 (52, 0) X = 0 → ¬ k ≤ (L 38 n).length → wp_Mo_answer 554 M K) (h150 : ¬ mvd m2 n → ¬ mz_i m2 (52, 0) X = 0 → k ≤ (L 38 n).length → ∀ M', A2 M' (rc2 m X n) (lu L 38 n ((L 38 n).take k)) → wp_Mo_answer 150 M' K) : wp_Mo_doTransfer v y2 M K := by
  have hn := hf.1
  have g33 : mz_i M (30, 0) 33 = Int32.ofNat n := (h.1 30 33 rfl).trans e33
  have g33' : mz_i M (33, 0) n = 1 := ((h.1 33 n rfl).trans (by rw [f33])).trans hf.2.2
  have g29 : mz_i M (30, 0) 29 = mz_i m (30, 0) 29 := h.1 30 29 rfl
  have hs' : (mz_i M (30, 0) 29).toInt = (X : Int) := by rw [g29]; exact hs
  have g52 : mz_i M (52, 0) X = mz_i m2 (52, 0) X := (h.1 52 X rfl).trans (by rw [f52])
  obtain ⟨d1, d2, d3⟩ := h.2 38 36 24 16 n rfl hn
  have tn : (Int32.ofNat n).toInt = (n : Int) := itn (by omega)
  have n0 : ¬ Int32.ofNat n < 0 := fun z => absurd ((ilt (n := 0) tn rfl).mp z) (by omega)
  have n1 : (0 : Int32) ≤ Int32.ofNat n := (ile (m := 0) rfl tn).mpr (by omega)
  have tk : (Int32.ofNat k).toInt = (k : Int) := itn (by omega)
  have tl : (Int32.ofNat (L 38 n).length).toInt = ((L 38 n).length : Int) := itn (by omega)
  have go : wp_Mo_doTransfer_44 K (Int32.ofNat (L 38 n).length) (Int32.ofNat k) M := by
    unfold wp_Mo_doTransfer_44
    rw [g33]
    refine ⟨fun _ => ?_, fun z => absurd n1 z⟩
    unfold wp_Mo_doTransfer_64
    rw [g33]
    refine ⟨fun z => absurd z n0, fun _ => ⟨n, tn, hn, ?_⟩⟩
    rw [g33']
    refine ⟨fun _ => ?_, fun z => absurd z (by decide)⟩
    unfold wp_Mo_doTransfer_106
    rw [g33]
    refine ⟨fun z => absurd z n0, fun _ => mo_moved (n := n) (m2 := m2) h f53 f54 rfl (fun hm => ⟨fun z => absurd z (by decide), fun _ => ⟨fun w => absurd w (by decide), fun _ => h450 hm⟩⟩) (fun hm => ⟨fun _ => ⟨X, hs', hX, ?_⟩, fun z => absurd rfl z⟩)⟩
    rw [g52]
    refine ⟨fun z => ⟨fun y => ⟨fun _ => ⟨fun _ => ?_, fun q => absurd (by decide) q⟩, fun q => absurd n1 q⟩, fun y => ⟨fun w => absurd w (by decide), fun _ => h554 hm z (fun w => y ((ile tk tl).mpr (by omega)))⟩⟩, fun z => ⟨fun w => absurd w (by decide), fun _ => h425 hm z⟩⟩
    have hkl : k ≤ (L 38 n).length := by
      have := (ile tk tl).mp y
      omega
    rw [g33]
    exact ⟨fun _ => mo_202 h hs hX hn hkl (fun M2 h2 => h150 hm z hkl M2 h2), fun q => absurd n1 q⟩
  refine ⟨fun _ => ?_, fun z => absurd z hv⟩
  rw [g33]
  refine ⟨fun _ => ⟨n, tn, hn, ?_⟩, fun z => absurd n1 z⟩
  rw [d1]
  rcases hk with ⟨h1, h2⟩ | ⟨h1, h2⟩
  · refine ⟨fun z => absurd h1 z, fun _ => ?_⟩
    rw [h2] at go
    exact go
  · refine ⟨fun _ => ?_, fun z => absurd z h1⟩
    rw [h2]
    exact go
theorem mo_rcvC {v y2 tg : Int32} {M m m2 : MzM} {L : MzV} {K : MzM → Prop} (h : A2 M m L) (hv : ¬ v = 12) (htg : exI m2 tg) (e33 : mz_i m (30, 0) 33 = tg) (e34 : mz_i m (30, 0) 34 = -1) (f33 : mz_i m (33, 0) = mz_i m2 (33, 0)) (hb : ∀ n : Nat, n < 16 → (mz_i m2 (33, 0) n = 0 ∨ mz_i m2 (33, 0) n = 1)) (hz : ∀ n : Nat, ¬ (filE m2 n ∧ tg = Int32.ofNat n)) (h550 : wp_Mo_answer 550 M K) : wp_Mo_doTransfer v y2 M K := by
  have g33 : mz_i M (30, 0) 33 = tg := (h.1 30 33 rfl).trans e33
  have g34 : mz_i M (30, 0) 34 = -1 := (h.1 30 34 rfl).trans e34
  have fin : ∀ y3 y4 y5 : Int32, wp_Mo_doTransfer_64 K y3 y4 y5 M := by
    intro y3 y4 y5
    unfold wp_Mo_doTransfer_64
    rw [g33, g34]
    rcases htg with q | ⟨n, hn, hth, etg⟩
    · exact ⟨fun _ => ⟨fun z => absurd z (by decide), fun _ => ⟨fun w => absurd w (by decide), fun _ => h550⟩⟩, fun z => absurd (by rw [q]; decide) z⟩
    · have tn : tg.toInt = (n : Int) := by rw [etg]; exact itn (by omega)
      refine ⟨fun z => absurd ((ilt (n := 0) tn rfl).mp z) (by omega), fun _ => ⟨n, tn, hn, fun z => ?_, fun _ => ⟨fun w => absurd w (by decide), fun _ => h550⟩⟩⟩
      rw [h.1 33 n rfl, f33] at z
      exact absurd ⟨⟨hn, hth, (z01 (hb n hn)).mp z⟩, etg⟩ (hz n)
  have go : ∀ y3 y4 : Int32, wp_Mo_doTransfer_44 K y3 y4 M := by
    intro y3 y4
    exact ⟨fun _ => fin _ _ _, fun _ => mo_freeNode h (fin _ _ _)⟩
  have go2 : ∀ y3 : Int32, wp_Mo_doTransfer_32 K v y2 y3 M := fun y3 => ⟨fun _ => go _ _, fun _ => go _ _⟩
  refine ⟨fun _ => ?_, fun z => absurd z hv⟩
  rw [g33]
  refine ⟨fun z => ?_, fun _ => go2 _⟩
  rcases htg with q | ⟨n, hn, hth, etg⟩
  · rw [q] at z
    exact absurd z (by decide)
  · exact ⟨n, by rw [etg]; exact itn (by omega), hn, go2 _⟩
