theorem cntF_pos {p : Nat → Bool} : ∀ (s j c : Nat), c + s < 100 → (0 < mzCntF p s j (Int32.ofNat c) ↔ (0 < c ∨ ∃ i : Nat, j ≤ i ∧ i < j + s ∧ p i = true))
  | 0, j, c, hc => by
    show 0 < Int32.ofNat c ↔ _
    rw [ilt (m := 0) rfl (itn (n := c) (by omega))]
    constructor
    · intro h
      exact Or.inl (by omega)
    · rintro (h | ⟨i, h1, h2, _⟩) <;> omega
  | s + 1, j, c, hc => by
    show 0 < mzCntF p s (j + 1) (if p j = true then Int32.ofNat c + 1 else Int32.ofNat c) ↔ _
    by_cases hp : p j = true
    · rw [if_pos hp, i32_succ rfl, cntF_pos s (j + 1) (c + 1) (by omega)]
      exact ⟨fun _ => Or.inr ⟨j, Nat.le_refl _, by omega, hp⟩, fun _ => Or.inl (by omega)⟩
    · rw [if_neg hp, cntF_pos s (j + 1) c (by omega)]
      constructor
      · rintro (h | ⟨i, h1, h2, h3⟩)
        · exact Or.inl h
        · exact Or.inr ⟨i, by omega, by omega, h3⟩
      · rintro (h | ⟨i, h1, h2, h3⟩)
        · exact Or.inl h
        · by_cases hi : i = j
          · subst hi
            exact absurd h3 hp
          · exact Or.inr ⟨i, by omega, by omega, h3⟩
/-- n may go, as RMD asks -/
def rmOk (m2 : MzM) (tg : Int32) (n : Nat) : Prop := dirE m2 n ∧ tg = Int32.ofNat n ∧ ¬ n = 0 ∧ (∀ i : Nat, i < 16 → ¬ i = 0 → mz_i m2 (32, 0) i = 1 → ¬ mz_i m2 (34, 0) i = Int32.ofNat n) ∧ (∀ x : Nat, x < 2 → ¬ mz_i m2 (50, 0) x = Int32.ofNat n)
theorem rmOk_uniq {m2 : MzM} {tg : Int32} {n n' : Nat} (h : rmOk m2 tg n) (h' : rmOk m2 tg n') : n = n' := ofN_inj (by have := h.1.1; omega) (by have := h'.1.1; omega) (h.2.1.symm.trans h'.2.1)
theorem pl_isCurrent {a : Int32} {M : MzM} {K : Int32 → MzM → Prop} (h1 : ∀ x : Nat, x < 2 → mz_i M (6, 0) x = a → K 1 M) (h0 : (∀ x : Nat, x < 2 → ¬ mz_i M (6, 0) x = a) → K 0 M) : wp_Store_isCurrent a M K := by
  refine ⟨3, ⟨fun z => absurd z (by decide), fun _ => ⟨0, rfl, by decide, fun n0 => ⟨fun z => absurd z (by decide), fun _ => ⟨1, rfl, by decide, fun n1 => ⟨fun _ => h0 (fun x hx => ?_), fun z => absurd (by decide) z⟩, fun q => h1 1 (by decide) q⟩⟩, fun q => h1 0 (by decide) q⟩⟩⟩
  rcases xcases hx with rfl | rfl
  · exact n0
  · exact n1
theorem pl_rmd {X : Nat} {tg : Int32} {M mo m1 m2 : MzM} {L L1 L2 : MzV} {K : Int32 → MzM → Prop} (h : A1 M mo L) (hE : EE m1 L1 m2 L2) (e12 : mz_i mo (8, X) 12 = tg) (e3 : ∀ n k : Nat, mz_i mo (3, n) k = mz_i m1 (3, n) k) (e6 : ∀ x : Nat, mz_i mo (6, 0) x = mz_i m1 (6, 0) x) (h1 : ∀ n : Nat, rmOk m2 tg n → K 250 (mz_si M (3, n) 1 0)) (h0 : (∀ n : Nat, ¬ rmOk m2 tg n) → K 550 M) : wp_Ses_removeDirectory X M K := by
  have hN := hE.2.2.1
  have hN' : ∀ n : Nat, n < 16 → nodeE mo L1 m2 L2 n := by
    intro n hn
    obtain ⟨q1, q2, q3, q4, q5, q6⟩ := hN n hn
    refine ⟨q1, q2, (e3 n 1).trans q3, fun z z0 => ⟨(e3 n 2).trans (q4 z z0).1, (q4 z z0).2⟩, fun z => (e3 n 3).trans (q5 z), fun z => ?_⟩
    rw [e3 n 6]
    exact q6 z
  have f12 : mz_i M (8, X) 12 = tg := (h.1 _ _ rfl).trans e12
  have f6 : ∀ x : Nat, x < 2 → mz_i M (6, 0) x = mz_i m2 (50, 0) x := fun x hx => ((h.1 _ _ rfl).trans (e6 x)).trans (hE.ses hx).2.2.2.2.2.2.2.2.2.2.1.1
  have f3 : ∀ n k : Nat, vis1 3 k = true → mz_i M (3, n) k = mz_i m1 (3, n) k := fun n k hv => (h.1 (3, n) k hv).trans (e3 n k)
  unfold wp_Ses_removeDirectory
  rw [f12]
  refine pl_isDirectory (m2 := m2) h hN' (fun hd => ⟨fun z => absurd z (by decide), fun _ => ?_⟩) (fun hd => ⟨fun _ => h0 (fun n hn => ?_), fun z => absurd rfl z⟩)
  · obtain ⟨n, hn, etg⟩ := drB_iff.mp hd
    have hn16 := hn.1
    have tt : tg.toInt = (n : Int) := by rw [etg]; exact itn (by omega)
    have etg2 : mz_i M (8, X) 12 = Int32.ofNat n := f12.trans etg
    have uq : ∀ n' : Nat, rmOk m2 tg n' → n' = n := fun n' z => ofN_inj (by have := z.1.1; omega) (by omega) (z.2.1.symm.trans etg)
    refine ⟨fun z => pl_countIn ?_, fun z => h0 (fun n' z' => z'.2.2.1 ?_)⟩
    · have z0 : ¬ n = 0 := by
        rintro rfl
        exact z etg2
      refine ⟨fun c => h0 (fun n' z' => ?_), fun c => ?_⟩
      · have en := uq n' z'
        subst en
        rcases (cntF_pos 15 1 0 (by decide)).mp c with w | ⟨i, i1, i2, i3⟩
        · omega
        · rw [decide_eq_true_iff] at i3
          rw [f3 i 1 rfl, f3 i 2 rfl, kd0 (hN i (by omega)), z01 (hN i (by omega)).1] at i3
          have w := (hN i (by omega)).2.2.2.1 i3.1 (by omega)
          exact z'.2.2.2.1 i (by omega) (by omega) i3.1 ((w.1.symm.trans i3.2).trans etg2)
      · rw [f12]
        refine pl_isCurrent (fun x hx q => ⟨fun z => absurd z (by decide), fun _ => h0 (fun n' z' => z'.2.2.2.2 x hx ?_)⟩) (fun q => ⟨fun _ => ⟨n, by rw [f12]; exact tt, hn16, ?_⟩, fun z => absurd rfl z⟩)
        · rw [← f6 x hx, q]
          exact z'.2.1
        · rintro _ rfl
          refine h1 n ⟨hn, etg, z0, fun i hi hi0 i1 i2 => c ((cntF_pos 15 1 0 (by decide)).mpr (Or.inr ⟨i, by omega, by omega, ?_⟩)), fun x hx w => q x hx ?_⟩
          · rw [decide_eq_true_iff]
            have w := (hN i hi).2.2.2.1 i1 hi0
            rw [f3 i 1 rfl, f3 i 2 rfl, kd0 (hN i hi), z01 (hN i hi).1]
            exact ⟨i1, (w.1.trans i2).trans etg2.symm⟩
          · rw [f6 x hx, w, etg]
    · have := uq n' z'
      rw [this]
      have q := (ieq (n := 0) tt rfl).mp (f12.symm.trans z)
      omega
  · have w := drB_iff.mpr ⟨n, hn.1, hn.2.1⟩
    rw [hd] at w
    exact absurd w (by decide)
theorem mo_rmd {tg : Int32} {M m m1 m2 : MzM} {L L1 L2 : MzV} {K : Int32 → MzM → Prop} (h : A2 M m L) (hE : EE m1 L1 m2 L2) (htg : exI m2 tg) (e33 : mz_i m (30, 0) 33 = tg) (f32 : mz_i m (32, 0) = mz_i m2 (32, 0)) (f33 : mz_i m (33, 0) = mz_i m2 (33, 0)) (f34 : mz_i m (34, 0) = mz_i m2 (34, 0)) (f50 : mz_i m (50, 0) = mz_i m2 (50, 0)) (h1 : ∀ n : Nat, rmOk m2 tg n → K 250 (mz_si M (32, 0) n 0)) (h0 : (∀ n : Nat, ¬ rmOk m2 tg n) → K 550 M) : wp_Mo_removeDirectory M K := by
  have hN := hE.2.2.1
  have g33 : mz_i M (30, 0) 33 = tg := (h.1 30 33 rfl).trans e33
  have g32 : ∀ i : Nat, mz_i M (32, 0) i = mz_i m2 (32, 0) i := fun i => (h.1 32 i rfl).trans (by rw [f32])
  have g33' : ∀ i : Nat, mz_i M (33, 0) i = mz_i m2 (33, 0) i := fun i => (h.1 33 i rfl).trans (by rw [f33])
  have g34 : ∀ i : Nat, mz_i M (34, 0) i = mz_i m2 (34, 0) i := fun i => (h.1 34 i rfl).trans (by rw [f34])
  have g50 : ∀ i : Nat, mz_i M (50, 0) i = mz_i m2 (50, 0) i := fun i => (h.1 50 i rfl).trans (by rw [f50])
  unfold wp_Mo_removeDirectory
  rw [g33]
  rcases htg with q | ⟨n, hn, hth, etg⟩
  · refine ⟨fun _ => h0 (fun n z => ?_), fun z => absurd (by rw [q]; decide) z⟩
    have z' := z.2.1
    rw [q] at z'
    exact nneg z.1.1 z'
  · have tt : tg.toInt = (n : Int) := by rw [etg]; exact itn (by omega)
    have uq : ∀ n' : Nat, rmOk m2 tg n' → n' = n := fun n' z => ofN_inj (by have := z.1.1; omega) (by omega) (z.2.1.symm.trans etg)
    refine ⟨fun z => h0 (fun n' z' => z'.2.2.1 ?_), fun z => ⟨n, tt, hn, ?_⟩⟩
    · have := uq n' z'
      have q := (ilt (n := 1) tt rfl).mp z
      omega
    · have z0 : ¬ n = 0 := fun y => z ((ilt (n := 1) tt rfl).mpr (by omega))
      rw [g33' n]
      refine ⟨fun y => h0 (fun n' z' => ?_), fun y => mo_inside ⟨fun c => h0 (fun n' z' => ?_), fun c => ?_⟩⟩
      · have en := uq n' z'
        subst en
        exact y z'.1.2.2
      · have en := uq n' z'
        subst en
        rcases (cntF_pos 15 1 0 (by decide)).mp c with w | ⟨i, i1, i2, i3⟩
        · omega
        · rw [decide_eq_true_iff, g32 i, g34 i, z01 (hN i (by omega)).1] at i3
          exact z'.2.2.2.1 i (by omega) (by omega) i3.1 (i3.2.trans etg)
      · rw [g33, g50 0, g50 1]
        refine ⟨fun w => h0 (fun n' z' => z'.2.2.2.2 0 (by decide) (w.trans z'.2.1)), fun w0 => ⟨fun w1 => ⟨n, tt, hn, ?_⟩, fun w => h0 (fun n' z' => z'.2.2.2.2 1 (by decide) (w.trans z'.2.1))⟩⟩
        rintro _ rfl
        refine h1 n ⟨⟨hn, hth, y⟩, etg, z0, fun i hi hi0 i1 i2 => c ((cntF_pos 15 1 0 (by decide)).mpr (Or.inr ⟨i, by omega, by omega, ?_⟩)), fun x hx w => ?_⟩
        · rw [decide_eq_true_iff, g32 i, g34 i, z01 (hN i hi).1]
          exact ⟨i1, i2.trans etg.symm⟩
        · rcases xcases hx with rfl | rfl
          · exact w0 (w.trans etg.symm)
          · exact w1 (w.trans etg.symm)
theorem dir_mv {m1 m2 : MzM} {L1 L2 : MzV} (hE : EE m1 L1 m2 L2) {n x : Nat} (hx : x < 2) (hd : dirE m2 n) : ¬ mz_i m2 (54, 0) x = Int32.ofNat n := by
  intro z
  have key : ∀ n' : Nat, filE m2 n' → mz_i m2 (54, 0) x = Int32.ofNat n' → False := by
    intro n' hf e
    have en := ofN_inj (by have := hd.1; omega) (by have := hf.1; omega) (z.symm.trans e)
    rw [← en] at hf
    exact absurd (hd.2.2.symm.trans hf.2.2) (by decide)
  obtain ⟨_, _, _, _, _, _, _, _, _, _, _, _, _, _, _, s16⟩ := hE.ses hx
  rcases s16 with t | ⟨_, _, _, _, t⟩ | ⟨_, _, _, _, _, n', t1, t2, t3⟩
  · rw [t.2.2.1] at z
    exact nneg hd.1 z
  · rcases t with t | ⟨n', t1, t2, t3⟩
    · rw [t.2] at z
      exact nneg hd.1 z
    · exact key n' t1 t3
  · exact key n' t1 t3
theorem ob_0_18 : obPred 0 18 := by
  intro m1 m2 M L1 L2 fr vd a ss K hE o0 ha hfit hW hD hA hfr hss h hk
  obtain ⟨s1, s2, s3, s4, s5, s6, s7, s8, s9, s10, s11, s12, s13, s14, s15, s16⟩ := hE.1
  have hcl := spc_le (L1 13 0)
  have h30 : (L1 13 0).length ≤ 30 := (h.line 0).2.1
  have sl : spc (L2 43 0) = spc (L1 13 0) := by rw [s3]
  have hu : ¬ mz_i m1 (8, 0) 7 = 0 := hW.elim (fun z => absurd z (by decide)) id
  have hp : pth (L1 13 0) (spc (L1 13 0) + 1) = some ss := hss ((hz5 hfit).2.2 rfl)
  have hN := hE.2.2.1
  have hr0 := hE.2.2.2.2.1
  have hw0 : ¬ mz_i m2 (46, 0) 0 = 0 := by
    rcases s7 with ⟨p, q⟩ | ⟨p, q⟩ | ⟨p, q⟩
    · exact absurd q hu
    · rw [p]; decide
    · rw [p]; decide
  obtain ⟨tg, pl, htg, hpl, hpn, hcls, href⟩ := path_0 hE ha hu hfr hp h
  refine ⟨fun _ => hcls _ (fun M5 h5 => ⟨18, rfl, by decide, fun z => absurd z (by decide), fun z => absurd z (by decide), fun z => absurd z (by decide), fun z => absurd z (by decide), fun z => absurd z (by decide), fun z => absurd z (by decide), fun z => absurd z (by decide), fun _ => ?_, fun z => absurd z (by decide), fun z => absurd z (by decide), fun n12 n13 n14 n15 n16 n17 n18 n19 n20 n21 => absurd rfl n19⟩), fun z => absurd rfl z⟩
  have e12 : mz_i M5 (8, 0) 12 = tg := h5.1 (8, 0) 12 rfl
  have rf : ∀ (M2 : MzM) (K2 : MzM → Prop), A2 M2 (mz_si (nB m2 0 a) (30, 0) 32 (Int32.ofNat (spc (L2 43 0) + 1))) L2 → (∀ n : Nat, rmOk m2 tg n → ∀ cc M4, A2 M4 (mz_si (mz_si (mz_si (mz_si (mz_si (nB m2 0 a) (30, 0) 32 (Int32.ofNat (spc (L2 43 0) + 1))) (30, 0) 33 tg) (30, 0) 34 pl) (30, 0) 35 cc) (32, 0) n 0) L2 → wp_Mo_answer 250 M4 (clrK a K2)) → ((∀ n : Nat, ¬ rmOk m2 tg n) → ∀ cc M4, A2 M4 (mz_si (mz_si (mz_si (mz_si (nB m2 0 a) (30, 0) 32 (Int32.ofNat (spc (L2 43 0) + 1))) (30, 0) 33 tg) (30, 0) 34 pl) (30, 0) 35 cc) L2 → wp_Mo_answer 550 M4 (clrK a K2)) → wp_Mo_doLine_255 (clrK a K2) (mz_i m2 (47, 0) 0) (mz_i m2 (48, 0) 0) (mz_i m2 (49, 0) 0) (Int32.ofNat (18 + 1)) (eaI 18) M2 := by
    intro M2 K2 h2 k1 k0
    refine ⟨fun _ => mo_pc (fun _ => ⟨fun z => absurd z (by decide), fun _ => href M2 _ h2 (fun M3 cc h3 _ => ⟨fun z => absurd z (by decide), fun _ => ⟨fun _ => ?_, fun z => absurd (by decide) z⟩⟩)⟩) (fun z => absurd z (by decide)), fun z => absurd z (by decide)⟩
    have go : ∀ ys0 : Int32, wp_Mo_doPath_24 (clrK a K2) (Int32.ofNat (18 + 1)) (mz_i m2 (48, 0) 0) ys0 M3 := by
      intro ys0
      refine mo_freeNode h3 ?_
      refine ⟨fun z => absurd z (by decide), fun z => absurd z (by decide), fun z => absurd z (by decide), fun z => absurd z (by decide), fun _ => ?_, fun z => absurd z (by decide), fun n7 n9 n17 n18 n19 n20 => absurd rfl n19⟩
      refine mo_rmd (tg := tg) h3 hE htg rfl rfl rfl rfl rfl (fun n w => ?_) (fun w => k0 w cc M3 h3)
      exact k1 n w cc _ (h3.si (t := 32) (k := n) (v := 0) rfl)
    exact mo_flag (m2 := m2) h3 rfl rfl rfl (fun n hn => (hN n hn).2.1) htg (fun _ => go 1) (fun _ => go 0)
  refine pl_rmd (tg := tg) h5 hE rfl (fun n k => ?_) (fun x => rfl) (fun n w => ?_) (fun hz => ?_)
  · rfl
  · have h6 := h5.si (o := (3, n)) (k := 1) (v := 0) rfl
    have hE1 := ee_rm hE w.2.2.1 w.1.1 w.2.2.2.1 w.2.2.2.2 (fun x hx => dir_mv hE hx w.1)
    obtain ⟨s1, s2, s3, s4, s5, s6, s7, s8, s9, s10, s11, s12, s13, s14, s15, s16⟩ := hE1.1
    rintro _ rfl
    have ht := h6.si (o := (8, 0)) (k := 16) (v := 250) rfl
    refine pl_forget (v := 250) false false false ht rfl (fg_s (by decide)) (fg_2 (by decide)) (fg_2 (by decide)) (fun M9 h9 => ?_)
    have hEE : ∀ cc : Int32, EE (fgM (mz_si (mz_si (mz_si (mz_si (mz_si (mS m1 0 (spc (L1 13 0)) fr vd) (8, 0) 16 0) (8, 0) 12 tg) (8, 0) 13 pl) (3, n) 1 0) (8, 0) 16 250) 0 false false false) (lu L1 15 0 ss) (mz_si (mz_si (mz_si (mz_si (mz_si (nB m2 0 a) (30, 0) 32 (Int32.ofNat (spc (L2 43 0) + 1))) (30, 0) 33 tg) (30, 0) 34 pl) (30, 0) 35 cc) (32, 0) n 0) L2 := fun cc => ⟨⟨s1, s2, s3, Or.inl ⟨o0, rfl⟩, rfl, s6, s7, Or.inl ⟨rfl, rfl⟩, ⟨rfl, Or.inl rfl⟩, ⟨rfl, 0, by decide, rfl⟩, s11, s12, s13, s14, s15, s16⟩, hE1.2⟩
    refine finF_0 (m1 := m1) (m2 := m2) (v := 250) (a := a) (no := fun cc => mz_si (mz_si (mz_si (mz_si (mz_si (nB m2 0 a) (30, 0) 32 (Int32.ofNat (spc (L2 43 0) + 1))) (30, 0) 33 tg) (30, 0) 34 pl) (30, 0) 35 cc) (32, 0) n 0) hEE ha (fun _ => ha) (fun _ => rfl) (by decide) (by decide) (by decide) (by decide) (fun _ => ⟨o0, rfl⟩) (fun _ => ⟨fun _ => rfl, rfl, rfl, rfl, rfl, rfl, rfl, rfl, rfl, rfl⟩) rfl h9 (fun M1' hr => hk M1' (fun M2 K2 h2 hk2 => rf M2 K2 h2 (fun n' w' cc M4 h4 => ?_) (fun w' => absurd w (w' n))))
    have en := rmOk_uniq w w'
    subst en
    exact hr cc M4 K2 h4 hk2
  · skip
    rintro _ rfl
    have ht := h5.si (o := (8, 0)) (k := 16) (v := 550) rfl
    refine pl_forget (v := 550) false false false ht rfl (fg_s (by decide)) (fg_2 (by decide)) (fg_2 (by decide)) (fun M9 h9 => ?_)
    have hEE : ∀ cc : Int32, EE (fgM (mz_si (mz_si (mz_si (mz_si (mS m1 0 (spc (L1 13 0)) fr vd) (8, 0) 16 0) (8, 0) 12 tg) (8, 0) 13 pl) (8, 0) 16 550) 0 false false false) (lu L1 15 0 ss) ((mz_si (mz_si (mz_si (mz_si (nB m2 0 a) (30, 0) 32 (Int32.ofNat (spc (L2 43 0) + 1))) (30, 0) 33 tg) (30, 0) 34 pl) (30, 0) 35 cc)) L2 := fun cc => ⟨⟨s1, s2, s3, Or.inl ⟨o0, rfl⟩, rfl, s6, s7, Or.inl ⟨rfl, rfl⟩, ⟨rfl, Or.inl rfl⟩, ⟨rfl, 0, by decide, rfl⟩, s11, s12, s13, s14, s15, s16⟩, hE.2.1, hE.2.2⟩
    refine finF_0 (m1 := m1) (m2 := m2) (v := 550) (a := a) (no := fun cc => (mz_si (mz_si (mz_si (mz_si (nB m2 0 a) (30, 0) 32 (Int32.ofNat (spc (L2 43 0) + 1))) (30, 0) 33 tg) (30, 0) 34 pl) (30, 0) 35 cc)) hEE ha (fun _ => ha) (fun _ => rfl) (by decide) (by decide) (by decide) (by decide) (fun _ => ⟨o0, rfl⟩) (fun _ => ⟨fun _ => rfl, rfl, rfl, rfl, rfl, rfl, rfl, rfl, rfl, rfl⟩) rfl h9 (fun M1' hr => hk M1' (fun M2 K2 h2 hk2 => rf M2 K2 h2 (fun n w => absurd w (hz n)) (fun _ cc M4 h4 => hr cc M4 K2 h4 hk2)))
theorem ob_1_18 : obPred 1 18 := by
  intro m1 m2 M L1 L2 fr vd a ss K hE o0 ha hfit hW hD hA hfr hss h hk
  obtain ⟨s1, s2, s3, s4, s5, s6, s7, s8, s9, s10, s11, s12, s13, s14, s15, s16⟩ := hE.2.1
  have hcl := spc_le (L1 13 1)
  have h30 : (L1 13 1).length ≤ 30 := (h.line 1).2.1
  have sl : spc (L2 43 1) = spc (L1 13 1) := by rw [s3]
  have hu : ¬ mz_i m1 (8, 1) 7 = 0 := hW.elim (fun z => absurd z (by decide)) id
  have hp : pth (L1 13 1) (spc (L1 13 1) + 1) = some ss := hss ((hz5 hfit).2.2 rfl)
  have hN := hE.2.2.1
  have hr0 := hE.2.2.2.2.1
  have hw0 : ¬ mz_i m2 (46, 0) 1 = 0 := by
    rcases s7 with ⟨p, q⟩ | ⟨p, q⟩ | ⟨p, q⟩
    · exact absurd q hu
    · rw [p]; decide
    · rw [p]; decide
  obtain ⟨tg, pl, htg, hpl, hpn, hcls, href⟩ := path_1 hE ha hu hfr hp h
  refine ⟨fun _ => hcls _ (fun M5 h5 => ⟨18, rfl, by decide, fun z => absurd z (by decide), fun z => absurd z (by decide), fun z => absurd z (by decide), fun z => absurd z (by decide), fun z => absurd z (by decide), fun z => absurd z (by decide), fun z => absurd z (by decide), fun _ => ?_, fun z => absurd z (by decide), fun z => absurd z (by decide), fun n12 n13 n14 n15 n16 n17 n18 n19 n20 n21 => absurd rfl n19⟩), fun z => absurd rfl z⟩
  have e12 : mz_i M5 (8, 1) 12 = tg := h5.1 (8, 1) 12 rfl
  have rf : ∀ (M2 : MzM) (K2 : MzM → Prop), A2 M2 (mz_si (nB m2 1 a) (30, 0) 32 (Int32.ofNat (spc (L2 43 1) + 1))) L2 → (∀ n : Nat, rmOk m2 tg n → ∀ cc M4, A2 M4 (mz_si (mz_si (mz_si (mz_si (mz_si (nB m2 1 a) (30, 0) 32 (Int32.ofNat (spc (L2 43 1) + 1))) (30, 0) 33 tg) (30, 0) 34 pl) (30, 0) 35 cc) (32, 0) n 0) L2 → wp_Mo_answer 250 M4 (clrK a K2)) → ((∀ n : Nat, ¬ rmOk m2 tg n) → ∀ cc M4, A2 M4 (mz_si (mz_si (mz_si (mz_si (nB m2 1 a) (30, 0) 32 (Int32.ofNat (spc (L2 43 1) + 1))) (30, 0) 33 tg) (30, 0) 34 pl) (30, 0) 35 cc) L2 → wp_Mo_answer 550 M4 (clrK a K2)) → wp_Mo_doLine_255 (clrK a K2) (mz_i m2 (47, 0) 1) (mz_i m2 (48, 0) 1) (mz_i m2 (49, 0) 1) (Int32.ofNat (18 + 1)) (eaI 18) M2 := by
    intro M2 K2 h2 k1 k0
    refine ⟨fun _ => mo_pc (fun _ => ⟨fun z => absurd z (by decide), fun _ => href M2 _ h2 (fun M3 cc h3 _ => ⟨fun z => absurd z (by decide), fun _ => ⟨fun _ => ?_, fun z => absurd (by decide) z⟩⟩)⟩) (fun z => absurd z (by decide)), fun z => absurd z (by decide)⟩
    have go : ∀ ys0 : Int32, wp_Mo_doPath_24 (clrK a K2) (Int32.ofNat (18 + 1)) (mz_i m2 (48, 0) 1) ys0 M3 := by
      intro ys0
      refine mo_freeNode h3 ?_
      refine ⟨fun z => absurd z (by decide), fun z => absurd z (by decide), fun z => absurd z (by decide), fun z => absurd z (by decide), fun _ => ?_, fun z => absurd z (by decide), fun n7 n9 n17 n18 n19 n20 => absurd rfl n19⟩
      refine mo_rmd (tg := tg) h3 hE htg rfl rfl rfl rfl rfl (fun n w => ?_) (fun w => k0 w cc M3 h3)
      exact k1 n w cc _ (h3.si (t := 32) (k := n) (v := 0) rfl)
    exact mo_flag (m2 := m2) h3 rfl rfl rfl (fun n hn => (hN n hn).2.1) htg (fun _ => go 1) (fun _ => go 0)
  refine pl_rmd (tg := tg) h5 hE rfl (fun n k => ?_) (fun x => rfl) (fun n w => ?_) (fun hz => ?_)
  · rfl
  · have h6 := h5.si (o := (3, n)) (k := 1) (v := 0) rfl
    have hE1 := ee_rm hE w.2.2.1 w.1.1 w.2.2.2.1 w.2.2.2.2 (fun x hx => dir_mv hE hx w.1)
    obtain ⟨s1, s2, s3, s4, s5, s6, s7, s8, s9, s10, s11, s12, s13, s14, s15, s16⟩ := hE1.2.1
    rintro _ rfl
    have ht := h6.si (o := (8, 1)) (k := 16) (v := 250) rfl
    refine pl_forget (v := 250) false false false ht rfl (fg_s (by decide)) (fg_2 (by decide)) (fg_2 (by decide)) (fun M9 h9 => ?_)
    have hEE : ∀ cc : Int32, EE (fgM (mz_si (mz_si (mz_si (mz_si (mz_si (mS m1 1 (spc (L1 13 1)) fr vd) (8, 1) 16 0) (8, 1) 12 tg) (8, 1) 13 pl) (3, n) 1 0) (8, 1) 16 250) 1 false false false) (lu L1 15 1 ss) (mz_si (mz_si (mz_si (mz_si (mz_si (nB m2 1 a) (30, 0) 32 (Int32.ofNat (spc (L2 43 1) + 1))) (30, 0) 33 tg) (30, 0) 34 pl) (30, 0) 35 cc) (32, 0) n 0) L2 := fun cc => ⟨hE1.1, ⟨s1, s2, s3, Or.inl ⟨o0, rfl⟩, rfl, s6, s7, Or.inl ⟨rfl, rfl⟩, ⟨rfl, Or.inl rfl⟩, ⟨rfl, 0, by decide, rfl⟩, s11, s12, s13, s14, s15, s16⟩, hE1.2.2⟩
    refine finF_1 (m1 := m1) (m2 := m2) (v := 250) (a := a) (no := fun cc => mz_si (mz_si (mz_si (mz_si (mz_si (nB m2 1 a) (30, 0) 32 (Int32.ofNat (spc (L2 43 1) + 1))) (30, 0) 33 tg) (30, 0) 34 pl) (30, 0) 35 cc) (32, 0) n 0) hEE ha (fun _ => ha) (fun _ => rfl) (by decide) (by decide) (by decide) (by decide) (fun _ => ⟨o0, rfl⟩) (fun _ => ⟨fun _ => rfl, rfl, rfl, rfl, rfl, rfl, rfl, rfl, rfl, rfl⟩) rfl h9 (fun M1' hr => hk M1' (fun M2 K2 h2 hk2 => rf M2 K2 h2 (fun n' w' cc M4 h4 => ?_) (fun w' => absurd w (w' n))))
    have en := rmOk_uniq w w'
    subst en
    exact hr cc M4 K2 h4 hk2
  · skip
    rintro _ rfl
    have ht := h5.si (o := (8, 1)) (k := 16) (v := 550) rfl
    refine pl_forget (v := 550) false false false ht rfl (fg_s (by decide)) (fg_2 (by decide)) (fg_2 (by decide)) (fun M9 h9 => ?_)
    have hEE : ∀ cc : Int32, EE (fgM (mz_si (mz_si (mz_si (mz_si (mS m1 1 (spc (L1 13 1)) fr vd) (8, 1) 16 0) (8, 1) 12 tg) (8, 1) 13 pl) (8, 1) 16 550) 1 false false false) (lu L1 15 1 ss) ((mz_si (mz_si (mz_si (mz_si (nB m2 1 a) (30, 0) 32 (Int32.ofNat (spc (L2 43 1) + 1))) (30, 0) 33 tg) (30, 0) 34 pl) (30, 0) 35 cc)) L2 := fun cc => ⟨hE.1, ⟨s1, s2, s3, Or.inl ⟨o0, rfl⟩, rfl, s6, s7, Or.inl ⟨rfl, rfl⟩, ⟨rfl, Or.inl rfl⟩, ⟨rfl, 0, by decide, rfl⟩, s11, s12, s13, s14, s15, s16⟩, hE.2.2⟩
    refine finF_1 (m1 := m1) (m2 := m2) (v := 550) (a := a) (no := fun cc => (mz_si (mz_si (mz_si (mz_si (nB m2 1 a) (30, 0) 32 (Int32.ofNat (spc (L2 43 1) + 1))) (30, 0) 33 tg) (30, 0) 34 pl) (30, 0) 35 cc)) hEE ha (fun _ => ha) (fun _ => rfl) (by decide) (by decide) (by decide) (by decide) (fun _ => ⟨o0, rfl⟩) (fun _ => ⟨fun _ => rfl, rfl, rfl, rfl, rfl, rfl, rfl, rfl, rfl, rfl⟩) rfl h9 (fun M1' hr => hk M1' (fun M2 K2 h2 hk2 => rf M2 K2 h2 (fun n w => absurd w (hz n)) (fun _ cc M4 h4 => hr cc M4 K2 h4 hk2)))
