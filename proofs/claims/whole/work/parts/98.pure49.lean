theorem pl_parentOf {n : Nat} {M m1 m2 : MzM} {L L1 L2 : MzV} {K : Int32 → MzM → Prop} (h : A1 M m1 L) (hN : ∀ n : Nat, n < 16 → nodeE m1 L1 m2 L2 n) (hr : rootE m1 m2) (hn : dirE m2 n) (hk : K (upF m2 (Int32.ofNat n)) M) : wp_Store_parentOf (Int32.ofNat n) M K := by
  have tn : (Int32.ofNat n).toInt = (n : Int) := itn (by have := hn.1; omega)
  have k1 : ¬ mz_i M (3, n) 1 = 0 := by
    rw [h.1 (3, n) 1 rfl, kd0 (hN n hn.1), hn.2.1]
    decide
  have ep : mz_i M (3, n) 2 = upF m2 (Int32.ofNat n) := by
    rw [h.1 (3, n) 2 rfl]
    unfold upF
    rw [tn, show ((n : Int).toNat) = n from rfl]
    by_cases hn0 : n = 0
    · subst hn0
      rw [if_pos (show Int32.ofNat 0 = 0 from rfl)]
      exact hr.2.2
    · rw [if_neg (show ¬ Int32.ofNat n = 0 from fun z => hn0 (ofN_inj (b := 0) (by have := hn.1; omega) (by decide) z))]
      exact ((hN n hn.1).2.2.2.1 hn.2.1 hn0).1
  have h16 := hn.1
  refine ⟨fun z => absurd ((ilt (n := 0) tn rfl).mp z) (by omega), fun _ => ⟨fun z => absurd ((ile (m := 16) rfl tn).mp z) (by omega), fun _ => ⟨n, tn, h16, fun z => absurd z k1, fun _ => ⟨fun z => absurd z (by decide), fun _ => ⟨n, tn, h16, ?_⟩⟩⟩⟩⟩
  rw [ep]
  exact hk
theorem pl_isFile {a : Int32} {M m1 m2 : MzM} {L L1 L2 : MzV} {K : Int32 → MzM → Prop} (h : A1 M m1 L) (hN : ∀ n : Nat, n < 16 → nodeE m1 L1 m2 L2 n) (h1 : ∀ n : Nat, filE m2 n → a = Int32.ofNat n → K 1 M) (h0 : (∀ n : Nat, ¬ (filE m2 n ∧ a = Int32.ofNat n)) → K 0 M) : wp_Store_isFile a M K := by
  have ta : a.toInt = a.toInt := rfl
  refine ⟨fun q => h0 ?_, fun q => ⟨fun q2 => h0 ?_, fun q2 => ?_⟩⟩
  · rintro n ⟨hn, rfl⟩
    have q1 := (ilt (n := 0) (itn (n := n) (by have := hn.1; omega)) rfl).mp q
    omega
  · rintro n ⟨hn, rfl⟩
    have q1 := (ile (m := 16) rfl (itn (n := n) (by have := hn.1; omega))).mp q2
    have := hn.1
    omega
  · have g1 : ¬ a.toInt < 0 := fun z => q ((ilt (n := 0) ta rfl).mpr z)
    have g2 : ¬ 16 ≤ a.toInt := fun z => q2 ((ile (m := 16) rfl ta).mpr z)
    have e : a.toInt = ((a.toInt.toNat : Nat) : Int) := by omega
    have hn : a.toInt.toNat < 16 := by omega
    refine ⟨a.toInt.toNat, e, hn, ?_⟩
    rw [h.1 (3, a.toInt.toNat) 1 rfl, kd2 (hN _ hn)]
    refine ⟨fun z => h0 ?_, fun z => h1 _ ⟨hn, z.1, z.2⟩ (iofn e)⟩
    rintro n ⟨hf, ea⟩
    have en : n = a.toInt.toNat := by
      have := hf.1
      have t : a.toInt = (n : Int) := by rw [ea]; exact itn (by omega)
      omega
    rw [← en] at z
    exact z ⟨hf.2.1, hf.2.2⟩
/-- the reference's free node -/
def frN (m2 : MzM) : Int32 := chF (fun j => decide (mz_i m2 (32, 0) j = 0)) 15 1
theorem mo_freeNode {M m : MzM} {L : MzV} {K : Int32 → MzM → Prop} (h : A2 M m L) (hk : K (frN m) M) : wp_Mo_freeNode M K := by
  have key : ∀ (s j : Nat), j + s = 16 → K (chF (fun j => decide (mz_i m (32, 0) j = 0)) s j) M → wp_Mo_freeNode_2 K (s + 1) (Int32.ofNat j) M := by
    intro s
    induction s with
    | zero =>
      intro j hj hK
      have hj' : j = 16 := by omega
      subst hj'
      exact ⟨fun _ => hK, fun h9 => absurd (by decide) h9⟩
    | succ s ih =>
      intro j hj hK
      obtain ⟨g1, g2⟩ := i32_of16 (show j < 16 by omega)
      have es : Int32.ofNat j + 1 = Int32.ofNat (j + 1) := i32_succ rfl
      have f1 := h.1 32 j rfl
      refine ⟨fun h9 => absurd h9 g1, fun _ => ⟨j, g2, by omega, fun z => ?_, fun z => ?_⟩⟩
      · have e : chF (fun j => decide (mz_i m (32, 0) j = 0)) (s + 1) j = chF (fun j => decide (mz_i m (32, 0) j = 0)) s (j + 1) := if_neg (by rw [decide_eq_true_iff]; exact fun w => z (f1.trans w))
        rw [e] at hK
        rw [es]
        exact ih (j + 1) (by omega) hK
      · have e : chF (fun j => decide (mz_i m (32, 0) j = 0)) (s + 1) j = Int32.ofNat j := if_pos (by rw [decide_eq_true_iff]; exact f1.symm.trans z)
        rw [e] at hK
        exact hK
  exact ⟨16, key 15 1 (by omega) hk⟩
theorem ob_0_7 : obPred 0 7 := by
  intro m1 m2 M L1 L2 fr vd a ss K hE o0 ha hfit hW hD hA hfr hss h hk
  obtain ⟨s1, s2, s3, s4, s5, s6, s7, s8, s9, s10, s11, s12, s13, s14, s15, s16⟩ := hE.1
  have hcl := spc_le (L1 13 0)
  have h30 : (L1 13 0).length ≤ 30 := (h.line 0).2.1
  have sl : spc (L2 43 0) = spc (L1 13 0) := by rw [s3]
  have hu : ¬ mz_i m1 (8, 0) 7 = 0 := hW.elim (fun z => absurd z (by decide)) id
  have hN := hE.2.2.1
  have hr0 := hE.2.2.2.2.1
  have hw0 : ¬ mz_i m2 (46, 0) 0 = 0 := by
    rcases s7 with ⟨p, q⟩ | ⟨p, q⟩ | ⟨p, q⟩
    · exact absurd q hu
    · rw [p]; decide
    · rw [p]; decide
  obtain ⟨nc, hnc, enc⟩ : ∃ n : Nat, dirE m2 n ∧ mz_i m2 (50, 0) 0 = Int32.ofNat n := by
    rcases s11.2 with ⟨q, _⟩ | ⟨_, q⟩
    · exact absurd q hw0
    · exact q
  have tc : (Int32.ofNat nc).toInt = (nc : Int) := itn (by have := hnc.1; omega)
  obtain ⟨pn, hpn, eup⟩ := up_ex hN hr0 (drB_iff.mpr ⟨nc, hnc, rfl⟩)
  have tx : (mz_i M (8, 0) 0).toInt = ((0 : Nat) : Int) := by
    rw [h.1 (8, 0) 0 rfl, show mz_i (mz_si (mS m1 0 (spc (L1 13 0)) fr vd) (8, 0) 16 0) (8, 0) 0 = Int32.ofNat 0 from s1]
    rfl
  have e6 : mz_i M (6, 0) 0 = Int32.ofNat nc := (h.1 (6, 0) 0 rfl).trans (s11.1.trans enc)
  refine ⟨fun z => absurd z (by decide), fun _ => ⟨7, rfl, by decide, fun z => absurd z (by decide), fun z => absurd z (by decide), fun z => absurd z (by decide), fun z => absurd z (by decide), fun z => absurd z (by decide), fun z => absurd z (by decide), fun _ => ⟨0, tx, by decide, ?_⟩, fun z => absurd z (by decide), fun z => absurd z (by decide), fun z => absurd z (by decide), fun z => absurd z (by decide), fun n1 n2 n3 n4 n5 n6 n7 n8 n9 n10 n11 => absurd rfl n7⟩⟩
  rw [e6]
  refine pl_parentOf (m2 := m2) (L1 := L1) (L2 := L2) h (fun n hn => hN n hn) hr0 hnc ⟨0, tx, by decide, ?_⟩
  rw [eup]
  rintro _ rfl
  have h3 := h.si (o := (6, 0)) (k := 0) (v := Int32.ofNat pn) rfl
  rintro _ rfl
  have ht := h3.si (o := (8, 0)) (k := 16) (v := 250) rfl
  refine pl_forget (v := 250) false false false ht rfl (fg_s (by decide)) (fg_2 (by decide)) (fg_2 (by decide)) (fun M9 h9 => ?_)
  have hEE : EE (fgM (mz_si (mz_si (mz_si (mS m1 0 (spc (L1 13 0)) fr vd) (8, 0) 16 0) (6, 0) 0 (Int32.ofNat pn)) (8, 0) 16 250) 0 false false false) (lu L1 15 0 ss) (mz_si (mz_si (nB m2 0 a) (30, 0) 32 (Int32.ofNat (spc (L2 43 0) + 1))) (50, 0) 0 (Int32.ofNat pn)) L2 := ⟨⟨s1, s2, s3, Or.inl ⟨o0, rfl⟩, rfl, s6, s7, Or.inl ⟨rfl, rfl⟩, ⟨rfl, Or.inl rfl⟩, ⟨rfl, 0, by decide, rfl⟩, ⟨rfl, Or.inr ⟨hw0, pn, hpn, rfl⟩⟩, s12, s13, s14, s15, s16⟩, hE.2.1, hE.2.2⟩
  refine fin5_0 (m1 := m1) (m2 := m2) (v := 250) (a := a) hEE ha ha rfl (by decide) (by decide) (by decide) (by decide) ⟨o0, rfl⟩ ⟨fun _ => rfl, rfl, rfl, rfl, rfl, rfl, rfl, rfl, rfl, rfl⟩ rfl h9 (fun M1' hr => hk M1' (fun M2 K2 h2 hk2 => ?_))
  have s0 : (mz_i M2 (30, 0) 29).toInt = ((0 : Nat) : Int) := by rw [h2.1 30 29 rfl]; exact ha
  have c50 : (mz_i M2 (50, 0) 0).toInt = (nc : Int) := by rw [h2.1 50 0 rfl, show mz_i (mz_si (nB m2 0 a) (30, 0) 32 (Int32.ofNat (spc (L2 43 0) + 1))) (50, 0) 0 = Int32.ofNat nc from enc]; exact tc
  have c34 : mz_i M2 (34, 0) nc = mz_i m2 (34, 0) nc := h2.1 34 nc rfl
  have fin : ∀ v : Int32, v = Int32.ofNat pn → ∀ M47 : MzM, M47 = mz_si M2 (50, 0) 0 v → wp_Mo_answer 250 M47 (fun M53 => clrK a K2 M53) := by
    rintro v rfl _ rfl
    exact hr _ K2 (h2.si (t := 50) (k := 0) (v := Int32.ofNat pn) rfl) hk2
  refine ⟨fun _ => mo_pc (fun z => absurd z (by decide)) (fun _ => ⟨fun _ => ?_, fun z => absurd rfl z⟩), fun z => absurd z (by decide)⟩
  refine ⟨fun z => absurd z (by decide), fun z => absurd z (by decide), fun _ => ⟨0, s0, by decide, nc, c50, hnc.1, fun z => ⟨0, s0, by decide, nc, c50, hnc.1, 0, s0, by decide, fin _ ?_⟩, fun z => ⟨0, s0, by decide, fin _ ?_⟩⟩, fun z => absurd z (by decide), fun z => absurd z (by decide), fun z => absurd z (by decide), fun n5 n6 n8 n10 n11 n16 => absurd rfl n8⟩
  · rw [c34]
    rw [c34] at z
    rw [← eup]
    unfold upF
    rw [if_neg, tc]
    · rfl
    · intro w
      have w0 := ofN_inj (b := 0) (by have := hnc.1; omega) (by decide) w
      rw [w0, hr0.2.1] at z
      exact absurd z (by decide)
  · rw [c34] at z
    rw [← eup]
    unfold upF
    by_cases w : nc = 0
    · rw [w, if_pos (show Int32.ofNat 0 = 0 from rfl)]
    · obtain ⟨_, _, p, hp, ep⟩ := (hN nc hnc.1).2.2.2.1 hnc.2.1 w
      rw [ep] at z
      exact absurd ((ile (m := 0) rfl (itn (n := p) (by have := hp.1; omega))).mpr (by omega)) z
theorem ob_1_7 : obPred 1 7 := by
  intro m1 m2 M L1 L2 fr vd a ss K hE o0 ha hfit hW hD hA hfr hss h hk
  obtain ⟨s1, s2, s3, s4, s5, s6, s7, s8, s9, s10, s11, s12, s13, s14, s15, s16⟩ := hE.2.1
  have hcl := spc_le (L1 13 1)
  have h30 : (L1 13 1).length ≤ 30 := (h.line 1).2.1
  have sl : spc (L2 43 1) = spc (L1 13 1) := by rw [s3]
  have hu : ¬ mz_i m1 (8, 1) 7 = 0 := hW.elim (fun z => absurd z (by decide)) id
  have hN := hE.2.2.1
  have hr0 := hE.2.2.2.2.1
  have hw0 : ¬ mz_i m2 (46, 0) 1 = 0 := by
    rcases s7 with ⟨p, q⟩ | ⟨p, q⟩ | ⟨p, q⟩
    · exact absurd q hu
    · rw [p]; decide
    · rw [p]; decide
  obtain ⟨nc, hnc, enc⟩ : ∃ n : Nat, dirE m2 n ∧ mz_i m2 (50, 0) 1 = Int32.ofNat n := by
    rcases s11.2 with ⟨q, _⟩ | ⟨_, q⟩
    · exact absurd q hw0
    · exact q
  have tc : (Int32.ofNat nc).toInt = (nc : Int) := itn (by have := hnc.1; omega)
  obtain ⟨pn, hpn, eup⟩ := up_ex hN hr0 (drB_iff.mpr ⟨nc, hnc, rfl⟩)
  have tx : (mz_i M (8, 1) 0).toInt = ((1 : Nat) : Int) := by
    rw [h.1 (8, 1) 0 rfl, show mz_i (mz_si (mS m1 1 (spc (L1 13 1)) fr vd) (8, 1) 16 0) (8, 1) 0 = Int32.ofNat 1 from s1]
    rfl
  have e6 : mz_i M (6, 0) 1 = Int32.ofNat nc := (h.1 (6, 0) 1 rfl).trans (s11.1.trans enc)
  refine ⟨fun z => absurd z (by decide), fun _ => ⟨7, rfl, by decide, fun z => absurd z (by decide), fun z => absurd z (by decide), fun z => absurd z (by decide), fun z => absurd z (by decide), fun z => absurd z (by decide), fun z => absurd z (by decide), fun _ => ⟨1, tx, by decide, ?_⟩, fun z => absurd z (by decide), fun z => absurd z (by decide), fun z => absurd z (by decide), fun z => absurd z (by decide), fun n1 n2 n3 n4 n5 n6 n7 n8 n9 n10 n11 => absurd rfl n7⟩⟩
  rw [e6]
  refine pl_parentOf (m2 := m2) (L1 := L1) (L2 := L2) h (fun n hn => hN n hn) hr0 hnc ⟨1, tx, by decide, ?_⟩
  rw [eup]
  rintro _ rfl
  have h3 := h.si (o := (6, 0)) (k := 1) (v := Int32.ofNat pn) rfl
  rintro _ rfl
  have ht := h3.si (o := (8, 1)) (k := 16) (v := 250) rfl
  refine pl_forget (v := 250) false false false ht rfl (fg_s (by decide)) (fg_2 (by decide)) (fg_2 (by decide)) (fun M9 h9 => ?_)
  have hEE : EE (fgM (mz_si (mz_si (mz_si (mS m1 1 (spc (L1 13 1)) fr vd) (8, 1) 16 0) (6, 0) 1 (Int32.ofNat pn)) (8, 1) 16 250) 1 false false false) (lu L1 15 1 ss) (mz_si (mz_si (nB m2 1 a) (30, 0) 32 (Int32.ofNat (spc (L2 43 1) + 1))) (50, 0) 1 (Int32.ofNat pn)) L2 := ⟨hE.1, ⟨s1, s2, s3, Or.inl ⟨o0, rfl⟩, rfl, s6, s7, Or.inl ⟨rfl, rfl⟩, ⟨rfl, Or.inl rfl⟩, ⟨rfl, 0, by decide, rfl⟩, ⟨rfl, Or.inr ⟨hw0, pn, hpn, rfl⟩⟩, s12, s13, s14, s15, s16⟩, hE.2.2⟩
  refine fin5_1 (m1 := m1) (m2 := m2) (v := 250) (a := a) hEE ha ha rfl (by decide) (by decide) (by decide) (by decide) ⟨o0, rfl⟩ ⟨fun _ => rfl, rfl, rfl, rfl, rfl, rfl, rfl, rfl, rfl, rfl⟩ rfl h9 (fun M1' hr => hk M1' (fun M2 K2 h2 hk2 => ?_))
  have s0 : (mz_i M2 (30, 0) 29).toInt = ((1 : Nat) : Int) := by rw [h2.1 30 29 rfl]; exact ha
  have c50 : (mz_i M2 (50, 0) 1).toInt = (nc : Int) := by rw [h2.1 50 1 rfl, show mz_i (mz_si (nB m2 1 a) (30, 0) 32 (Int32.ofNat (spc (L2 43 1) + 1))) (50, 0) 1 = Int32.ofNat nc from enc]; exact tc
  have c34 : mz_i M2 (34, 0) nc = mz_i m2 (34, 0) nc := h2.1 34 nc rfl
  have fin : ∀ v : Int32, v = Int32.ofNat pn → ∀ M47 : MzM, M47 = mz_si M2 (50, 0) 1 v → wp_Mo_answer 250 M47 (fun M53 => clrK a K2 M53) := by
    rintro v rfl _ rfl
    exact hr _ K2 (h2.si (t := 50) (k := 1) (v := Int32.ofNat pn) rfl) hk2
  refine ⟨fun _ => mo_pc (fun z => absurd z (by decide)) (fun _ => ⟨fun _ => ?_, fun z => absurd rfl z⟩), fun z => absurd z (by decide)⟩
  refine ⟨fun z => absurd z (by decide), fun z => absurd z (by decide), fun _ => ⟨1, s0, by decide, nc, c50, hnc.1, fun z => ⟨1, s0, by decide, nc, c50, hnc.1, 1, s0, by decide, fin _ ?_⟩, fun z => ⟨1, s0, by decide, fin _ ?_⟩⟩, fun z => absurd z (by decide), fun z => absurd z (by decide), fun z => absurd z (by decide), fun n5 n6 n8 n10 n11 n16 => absurd rfl n8⟩
  · rw [c34]
    rw [c34] at z
    rw [← eup]
    unfold upF
    rw [if_neg, tc]
    · rfl
    · intro w
      have w0 := ofN_inj (b := 0) (by have := hnc.1; omega) (by decide) w
      rw [w0, hr0.2.1] at z
      exact absurd z (by decide)
  · rw [c34] at z
    rw [← eup]
    unfold upF
    by_cases w : nc = 0
    · rw [w, if_pos (show Int32.ofNat 0 = 0 from rfl)]
    · obtain ⟨_, _, p, hp, ep⟩ := (hN nc hnc.1).2.2.2.1 hnc.2.1 w
      rw [ep] at z
      exact absurd ((ile (m := 0) rfl (itn (n := p) (by have := hp.1; omega))).mpr (by omega)) z
