theorem mtc_uniq {l : List Int32} {cl c c' : Nat} (hc : c < 21) (hc' : c' < 21) (h : mtc l (wdL c) cl) (h' : mtc l (wdL c') cl) : c' = c := by
  have e := (mtc_good hc h).2.2.symm.trans (mtc_good hc' h').2.2
  have := ofN_inj (by omega) (by omega) e
  omega
def wrI (c : Nat) : Int32 := if c = 12 ∨ c = 13 ∨ 16 ≤ c then 1 else 0
theorem wrI_iff (c : Nat) : ¬ wrI c = 0 ↔ (c = 12 ∨ c = 13 ∨ 16 ≤ c) := by
  unfold wrI
  by_cases h : c = 12 ∨ c = 13 ∨ 16 ≤ c
  · rw [if_pos h]
    exact ⟨fun _ => h, fun _ => by decide⟩
  · rw [if_neg h]
    exact ⟨fun z => absurd rfl z, fun z => absurd z h⟩
def eaI (c : Nat) : Int32 := if c < 4 then 1 else 0
theorem eaI_iff (c : Nat) : ¬ eaI c = 0 ↔ c < 4 := by
  unfold eaI
  by_cases h : c < 4
  · rw [if_pos h]
    exact ⟨fun _ => h, fun _ => by decide⟩
  · rw [if_neg h]
    exact ⟨fun z => absurd rfl z, fun z => absurd z h⟩
theorem mo_83 {c : Nat} {y1 y2 y3 e : Int32} {M : MzM} {K : MzM → Prop} (hc : c < 21) (h : wp_Mo_doLine_111 K y1 y2 y3 (Int32.ofNat (c + 1)) e (wrI c) M) : wp_Mo_doLine_83 K y1 y2 y3 (Int32.ofNat (c + 1)) e M := by
  have vne : ∀ k : Nat, k < 100 → (Int32.ofNat (c + 1) = Int32.ofNat k ↔ c + 1 = k) := fun k hk => ⟨fun z => ofN_inj (by omega) (by omega) z, fun z => by rw [z]⟩
  have tc : (Int32.ofNat (c + 1)).toInt = ((c + 1 : Nat) : Int) := itn (by omega)
  refine ⟨fun z => ?_, fun z => ⟨fun z2 => ?_, fun z2 => ⟨fun z3 => ?_, fun z3 => ?_⟩⟩⟩
  · have q := (vne 13 (by decide)).mp z
    have e1 : wrI c = 1 := if_pos (by omega)
    rw [e1] at h
    exact h
  · have q := (vne 14 (by decide)).mp z2
    have e1 : wrI c = 1 := if_pos (by omega)
    rw [e1] at h
    exact h
  · have q1 : ¬ c + 1 = 13 := fun w => z ((vne 13 (by decide)).mpr w)
    have q2 : ¬ c + 1 = 14 := fun w => z2 ((vne 14 (by decide)).mpr w)
    have q3 := (ilt (n := 17) tc rfl).mp z3
    have e1 : wrI c = 0 := if_neg (by omega)
    rw [e1] at h
    exact h
  · have q3 : ¬ ((c + 1 : Nat) : Int) < 17 := fun w => z3 ((ilt (n := 17) tc rfl).mpr w)
    have e1 : wrI c = 1 := if_pos (by omega)
    rw [e1] at h
    exact h
/-- the class's places when a line has been parted -/
def mS (m1 : MzM) (x cl : Nat) (fr vd : Int32) : MzM := mz_si (mz_si (mz_si (mz_si (mz_si m1 (12, x) 4 0) (12, x) 5 0) (12, x) 6 (Int32.ofNat cl)) (14, x) 2 fr) (14, x) 3 vd
def lnC (X c15 : Nat) (K : MzM → Prop) (M105 : MzM) : Prop := ((¬ (mz_i M105 (8, X) 16) = 0 → ((¬ (mz_i M105 (8, X) 16) = 0 → tl X c15 K M105) ∧ ((mz_i M105 (8, X) 16) = 0 → wp_Ses_obeyPlain X c15 M105 (fun v128 M125 => (∀ M129 : MzM, M129 = mz_si M125 (8, X) 16 v128 → tl X c15 K M129))))) ∧ ((mz_i M105 (8, X) 16) = 0 → ((¬ (mzCmdA.getD c15 0) = (4 : Int32) → ((¬ (mz_i M105 (8, X) 16) = 0 → tl X c15 K M105) ∧ ((mz_i M105 (8, X) 16) = 0 → wp_Ses_obeyPlain X c15 M105 (fun v172 M169 => (∀ M173 : MzM, M173 = mz_si M169 (8, X) 16 v172 → tl X c15 K M173))))) ∧ ((mzCmdA.getD c15 0) = (4 : Int32) → wp_Ses_locate X M105 (fun M194 => wp_Ses_obeyPath X c15 M194 (fun v200 M197 => (∀ M201 : MzM, M201 = mz_si M197 (8, X) 16 v200 → tl X c15 K M201)))))))
def lnK (X : Nat) (K : MzM → Prop) (o14 : Option Nat) (M11 : MzM) : Prop := ((o14 = none → wp_Ses_refusalN X M11 (fun v20 M17 => (∀ M21 : MzM, M21 = mz_si M17 (8, X) 16 v20 → ((¬ (mz_i M21 (8, X) 16) = 0 → ((¬ (mz_i M21 (8, X) 16) = 0 → tlN X K M21) ∧ ((mz_i M21 (8, X) 16) = 0 → tlN X K M21))) ∧ ((mz_i M21 (8, X) 16) = 0 → ((¬ (mz_i M21 (8, X) 16) = 0 → tlN X K M21) ∧ ((mz_i M21 (8, X) 16) = 0 → tlN X K M21))))))) ∧ (∀ c15 : Nat, c15 < 21 → o14 = some c15 → wp_Ses_refusal X c15 M11 (fun v104 M101 => (∀ M105 : MzM, M105 = mz_si M101 (8, X) 16 v104 → lnC X c15 K M105))))
def lnA (X : Nat) (K : MzM → Prop) (M : MzM) : Prop := wp_Lin_split X M (fun M5 => wp_Path_read X ((mz_i M5 (12, X) 6) + (1 : Int32)) (mz_i M5 (12, X) 2) M5 (fun M8 => wp_Ses_recognise X M8 (lnK X K)))
theorem accept_of {X : Nat} {b : Int32} {M : MzM} {K : MzM → Prop} (h : wp_Lin_readByte X b M (fun v4 M1 => ((¬ v4 = 0 → lnA X K M1) ∧ (v4 = 0 → K M1)))) : wp_Ses_accept X b M K := h
/-- what a command must do, of class and reference -/
def obPred (X c : Nat) : Prop := ∀ (m1 m2 M : MzM) (L1 L2 : MzV) (fr vd a : Int32) (ss : List Int32) (K : MzM → Prop), EE m1 L1 m2 L2 → mz_i m2 (39, 0) X = 0 → a.toInt = (X : Int) → fitK (L1 13 X) (spc (L1 13 X) + 1) (mzCmdA.getD c 0) → (mzCmdWho.getD c 0 = 0 ∨ ¬ mz_i m1 (8, X) 7 = 0) → (¬ mzCmdD.getD c 0 = 0 ∨ mz_i m1 (16, X) 1 = 0) → (¬ mzCmdWho.getD c 0 = 2 ∨ mz_i m1 (8, X) 7 = 1) → fr = frI (L1 13 X) (spc (L1 13 X) + 1) → ((pth (L1 13 X) (spc (L1 13 X) + 1)).isSome = true → pth (L1 13 X) (spc (L1 13 X) + 1) = some ss) → A1 M (mz_si (mS m1 X (spc (L1 13 X)) fr vd) (8, X) 16 0) (lu L1 15 X ss) → (∀ M1', (∀ (M2 : MzM) (K2 : MzM → Prop), A2 M2 (mz_si (nB m2 X a) (30, 0) 32 (Int32.ofNat (spc (L2 43 X) + 1))) L2 → (∀ M2', OL m1 m2 X M1' M2' → K2 M2') → wp_Mo_doLine_255 (clrK a K2) (mz_i m2 (47, 0) X) (mz_i m2 (48, 0) X) (mz_i m2 (49, 0) X) (Int32.ofNat (c + 1)) (eaI c) M2) → K M1') →
  ((mzCmdA.getD c 0 = 4 → wp_Ses_locate X M (fun M194 => wp_Ses_obeyPath X c M194 (fun v M197 => (∀ M201 : MzM, M201 = mz_si M197 (8, X) 16 v → tl X c K M201)))) ∧ (¬ mzCmdA.getD c 0 = 4 → wp_Ses_obeyPlain X c M (fun v M125 => (∀ M129 : MzM, M129 = mz_si M125 (8, X) 16 v → tl X c K M129))))
/-- nothing has been obeyed: what holds before the answer v -/
theorem ee_base_0 {m1 m2 : MzM} {L1 L2 : MzV} (hE : EE m1 L1 m2 L2) (o0 : mz_i m2 (39, 0) 0 = 0) (cl : Nat) (fr vd v a bg : Int32) (ss : List Int32) : EE (fgM (mz_si (mS m1 0 cl fr vd) (8, 0) 16 v) 0 false false false) (lu L1 15 0 ss) (mz_si (nB m2 0 a) (30, 0) 32 bg) L2 := by
  obtain ⟨s1, s2, s3, s4, s5, s6, s7, s8, s9, s10, s11, s12, s13, s14, s15, s16⟩ := hE.1
  exact ⟨⟨s1, s2, s3, Or.inl ⟨o0, rfl⟩, rfl, s6, s7, Or.inl ⟨rfl, rfl⟩, ⟨rfl, Or.inl rfl⟩, ⟨rfl, 0, by decide, rfl⟩, s11, s12, s13, s14, s15, s16⟩, hE.2.1, hE.2.2⟩
theorem finR_0 {m1 m2 mo nb M1 : MzM} {LO L2O : MzV} {v a : Int32} {K : MzM → Prop} (hE : EE mo LO nb L2O) (ha : a.toInt = ((0 : Nat) : Int)) (hs : (mz_i nb (30, 0) 29).toInt = ((0 : Nat) : Int)) (hf : mz_i nb (30, 0) 30 = 0) (h213 : ¬ v = 213) (h257 : ¬ v = 257) (h426 : (¬ v = 426 ∧ ¬ v ≤ 0)) (hdg : dg v = dgo v) (ho : mz_i nb (39, 0) 0 = 0 ∧ mz_i nb (40, 0) 0 = 0) (hcp : cpF m1 m2 mo nb) (hv : mz_i mo (8, 0) 16 = v) (h1 : A1 M1 mo LO) (hk : ∀ M1', (∀ (bg : Int32) (M2 : MzM) (K2 : MzM → Prop), A2 M2 (mz_si nb (30, 0) 32 bg) L2O → (∀ M2', OL m1 m2 0 M1' M2' → K2 M2') → wp_Mo_answer v M2 (clrK a K2)) → K M1') : tlA 0 K M1 := by
  refine pl_tail5 h1 hv h213 h257 h426.1 (nsp_0 hE) (fun M1' ds h1' => hk M1' (fun bg M2 K2 h2 hk2 => ?_))
  have hE' : EE mo LO (mz_si nb (30, 0) 32 bg) L2O := hE
  have hs' : (mz_i (mz_si nb (30, 0) 32 bg) (30, 0) 29).toInt = ((0 : Nat) : Int) := hs
  have hf' : mz_i (mz_si nb (30, 0) 32 bg) (30, 0) 30 = 0 := hf
  refine mo_answer h2 hs' (by decide) (fun M3 h3 => mo_clr h3 ha (by decide) (fun M4 h4 => hk2 M4 ?_))
  have hq : L2O 45 0 = LO 9 0 := (hE.1).2.1.symm
  rw [hq, ← hdg] at h4
  refine ⟨_, _, _, _, h1', h4, ee_line_0 hE' ds _ _, hcp, ho, ⟨?_, posv hv h426.2⟩, fun z => absurd (hv.symm.trans z) h213⟩
  show mz_i mo (8, 0) 16 = fa (mz_si nb (30, 0) 32 bg) v
  rw [hv, fa_0 hf']
theorem lin_0 {m1 m2 M : MzM} {L1 L2 : MzV} {a : Int32} {K : MzM → Prop} (hob : ∀ c : Nat, c < 21 → obPred 0 c) (hE : EE m1 L1 m2 L2) (o0 : mz_i m2 (39, 0) 0 = 0) (ha : a.toInt = ((0 : Nat) : Int)) (h : A1 M (mz_si (mz_si m1 (12, 0) 4 0) (12, 0) 5 0) L1) (hk : ∀ M1', (∀ (M2 : MzM) (K2 : MzM → Prop), A2 M2 (nA m2 0 a) L2 → (∀ M2', OL m1 m2 0 M1' M2' → K2 M2') → wp_Mo_doLine M2 (clrK a K2)) → K M1') : lnA 0 K M := by
  obtain ⟨s1, s2, s3, s4, s5, s6, s7, s8, s9, s10, s11, s12, s13, s14, s15, s16⟩ := hE.1
  have hcl := spc_le (L1 13 0)
  have h30 : (L1 13 0).length ≤ 30 := (h.line 0).2.1
  have hr53 : mz_i m2 (53, 0) 0 = 0 ∨ mz_i m2 (53, 0) 0 = 1 ∨ mz_i m2 (53, 0) 0 = 2 := by
    rcases s16 with t | t | t
    · exact Or.inl t.1
    · exact Or.inr (Or.inl t.1)
    · exact Or.inr (Or.inr t.1)
  have u0 : mz_i m1 (8, 0) 7 = 0 ↔ mz_i m2 (46, 0) 0 = 0 := by
    rcases s7 with ⟨p, q⟩ | ⟨p, q⟩ | ⟨p, q⟩ <;> rw [p, q] <;> decide
  have u1 : mz_i m1 (8, 0) 7 = 1 ↔ mz_i m2 (46, 0) 0 = 2 := by
    rcases s7 with ⟨p, q⟩ | ⟨p, q⟩ | ⟨p, q⟩ <;> rw [p, q] <;> decide
  have r0 : mz_i m1 (16, 0) 1 = 0 ↔ mz_i m2 (53, 0) 0 ≤ 0 := by
    rw [s14]
    rcases hr53 with q | q | q <;> rw [q] <;> decide
  have hwd : wdE m2 := hE.2.2.2.2.2.2.2.1
  have rest : ∀ (M8 : MzM) (fr vd : Int32) (ss : List Int32), fr = frI (L1 13 0) (spc (L1 13 0) + 1) → vd = (if (pth (L1 13 0) (spc (L1 13 0) + 1)).isSome = true then 1 else 0) → ((pth (L1 13 0) (spc (L1 13 0) + 1)).isSome = true → pth (L1 13 0) (spc (L1 13 0) + 1) = some ss) → A1 M8 (mS m1 0 (spc (L1 13 0)) fr vd) (lu L1 15 0 ss) → wp_Ses_recognise 0 M8 (lnK 0 K) := by
    intro M8 fr vd ss hfr hvd hss h8
    have e6 : mz_i (mS m1 0 (spc (L1 13 0)) fr vd) (12, 0) 6 = Int32.ofNat (spc (L1 13 0)) := rfl
    -- a refused line with its code
    have fin : ∀ (v : Int32), ¬ v = 213 → ¬ v = 257 → (¬ v = 426 ∧ ¬ v ≤ 0) → dg v = dgo v → (∀ (M2 : MzM) (K2 : MzM → Prop), A2 M2 (nA m2 0 a) L2 → (∀ M3 bg', A2 M3 (mz_si (nB m2 0 a) (30, 0) 32 bg') L2 → wp_Mo_answer v M3 (clrK a K2)) → wp_Mo_doLine M2 (clrK a K2)) → ∀ (M9 : MzM), A1 M9 (fgM (mz_si (mS m1 0 (spc (L1 13 0)) fr vd) (8, 0) 16 v) 0 false false false) (lu L1 15 0 ss) → tlA 0 K M9 := by
      intro v g1 g2 g3 g4 href M9 h9
      exact finR_0 (m1 := m1) (m2 := m2) (v := v) (a := a) (nb := nB m2 0 a) (ee_base_0 hE o0 _ fr vd v a 0 ss) ha ha rfl g1 g2 g3 g4 ⟨o0, rfl⟩ ⟨fun _ => rfl, rfl, rfl, rfl, rfl, rfl, rfl, rfl, rfl, rfl⟩ rfl h9 (fun M1' hr => hk M1' (fun M2 K2 h2 hk2 => href M2 K2 h2 (fun M3 bg' h3 => hr bg' M3 K2 h3 hk2)))
    refine pl_recognise h8 e6 hcl (fun c hc hm => ⟨fun z => absurd z (by simp), fun c15 hc15 hcc => ?_⟩) (fun hn => ⟨fun _ => ?_, fun c15 _ z => absurd z (by simp)⟩)
    · have ecc : c15 = c := (Option.some.inj hcc).symm
      subst ecc
      obtain ⟨w0, w2, wd⟩ := tab_facts c15 hc
      -- the reference as far as its questions
      have href : ∀ (M2 : MzM) (K2 : MzM → Prop), A2 M2 (nA m2 0 a) L2 → (∀ M3, A2 M3 (mz_si (nB m2 0 a) (30, 0) 32 (Int32.ofNat (spc (L2 43 0) + 1))) L2 → wp_Mo_doLine_111 (clrK a K2) (mz_i m2 (47, 0) 0) (mz_i m2 (48, 0) 0) (mz_i m2 (49, 0) 0) (Int32.ofNat (c15 + 1)) (eaI c15) (wrI c15) M3) → wp_Mo_doLine M2 (clrK a K2) := by
        intro M2 K2 h2 h111
        have hm2 : mtc (L2 43 0) (wdL c15) (spc (L2 43 0)) := by rw [← s3]; exact hm
        refine mo_doLine h2 ha (by decide) hwd (fun hn => absurd hm2 (hn c15 hc)) (fun c' hc' hm' M3 h3 => ?_)
        have e := mtc_uniq hc hc' hm2 hm'
        subst e
        exact mo_83 hc (h111 M3 h3)
      have b31 : spc (L2 43 0) + 1 ≤ 31 := by rw [← s3]; omega
      -- the questions of the reference, answered
      have ask : ∀ (M3 : MzM) (K2 : MzM → Prop), A2 M3 (mz_si (nB m2 0 a) (30, 0) 32 (Int32.ofNat (spc (L2 43 0) + 1))) L2 → (¬ mz_i m1 (12, 0) 3 = 0 → wp_Mo_answer 500 M3 (clrK a K2)) → (mz_i m1 (12, 0) 3 = 0 → ¬ fitK (L1 13 0) (spc (L1 13 0) + 1) (mzCmdA.getD c15 0) → wp_Mo_answer 501 M3 (clrK a K2)) → (mz_i m1 (12, 0) 3 = 0 → fitK (L1 13 0) (spc (L1 13 0) + 1) (mzCmdA.getD c15 0) → ¬ mzCmdWho.getD c15 0 = 0 → mz_i m1 (8, 0) 7 = 0 → wp_Mo_answer 530 M3 (clrK a K2)) → (mz_i m1 (12, 0) 3 = 0 → fitK (L1 13 0) (spc (L1 13 0) + 1) (mzCmdA.getD c15 0) → (mzCmdWho.getD c15 0 = 0 ∨ ¬ mz_i m1 (8, 0) 7 = 0) → mzCmdD.getD c15 0 = 0 → ¬ mz_i m1 (16, 0) 1 = 0 → wp_Mo_answer 503 M3 (clrK a K2)) → (mz_i m1 (12, 0) 3 = 0 → fitK (L1 13 0) (spc (L1 13 0) + 1) (mzCmdA.getD c15 0) → (mzCmdWho.getD c15 0 = 0 ∨ ¬ mz_i m1 (8, 0) 7 = 0) → (¬ mzCmdD.getD c15 0 = 0 ∨ mz_i m1 (16, 0) 1 = 0) → mzCmdWho.getD c15 0 = 2 → ¬ mz_i m1 (8, 0) 7 = 1 → wp_Mo_answer 550 M3 (clrK a K2)) → (mz_i m1 (12, 0) 3 = 0 → fitK (L1 13 0) (spc (L1 13 0) + 1) (mzCmdA.getD c15 0) → (mzCmdWho.getD c15 0 = 0 ∨ ¬ mz_i m1 (8, 0) 7 = 0) → (¬ mzCmdD.getD c15 0 = 0 ∨ mz_i m1 (16, 0) 1 = 0) → (¬ mzCmdWho.getD c15 0 = 2 ∨ mz_i m1 (8, 0) 7 = 1) → wp_Mo_doLine_255 (clrK a K2) (mz_i m2 (47, 0) 0) (mz_i m2 (48, 0) 0) (mz_i m2 (49, 0) 0) (Int32.ofNat (c15 + 1)) (eaI c15) M3) → wp_Mo_doLine_111 (clrK a K2) (mz_i m2 (47, 0) 0) (mz_i m2 (48, 0) 0) (mz_i m2 (49, 0) 0) (Int32.ofNat (c15 + 1)) (eaI c15) (wrI c15) M3 := by
        intro M3 K2 h3 k500 k501 k530 k503 k550 k0
        have n42 : mz_i (mz_si (nB m2 0 a) (30, 0) 32 (Int32.ofNat (spc (L2 43 0) + 1))) (42, 0) 0 = mz_i m1 (12, 0) 3 := s6.symm
        have n46 : mz_i (mz_si (nB m2 0 a) (30, 0) 32 (Int32.ofNat (spc (L2 43 0) + 1))) (46, 0) 0 = mz_i m2 (46, 0) 0 := rfl
        have n53 : mz_i (mz_si (nB m2 0 a) (30, 0) 32 (Int32.ofNat (spc (L2 43 0) + 1))) (53, 0) 0 = mz_i m2 (53, 0) 0 := rfl
        refine mo_111 (b := spc (L2 43 0) + 1) (c := c15) h3 ha (by decide) rfl b31 hc (eaI_iff c15) (wrI_iff c15) ?_ ?_ ?_ ?_ ?_ ?_
        all_goals rw [n42]
        all_goals try rw [n46]
        all_goals try rw [n53]
        all_goals try rw [← s3]
        · exact k500
        · exact k501
        · exact fun q1 q2 q3 q4 => k530 q1 q2 (fun z => q3 (w0.mp z)) (u0.mpr q4)
        · exact fun q1 q2 q3 q4 q5 => k503 q1 q2 (q3.elim (fun z => Or.inl (w0.mpr z)) (fun z => Or.inr (fun w => z (u0.mp w)))) (Decidable.byContradiction (fun z => q4 (wd.mp z))) (fun z => q5 (r0.mp z))
        · exact fun q1 q2 q3 q4 q5 q6 => k550 q1 q2 (q3.elim (fun z => Or.inl (w0.mpr z)) (fun z => Or.inr (fun w => z (u0.mp w)))) (q4.elim (fun z => Or.inl (wd.mpr z)) (fun z => Or.inr (r0.mpr z))) (w2.mpr q5) (fun z => q6 (u1.mp z))
        · exact fun q1 q2 q3 q4 q5 => k0 q1 q2 (q3.elim (fun z => Or.inl (w0.mpr z)) (fun z => Or.inr (fun w => z (u0.mp w)))) (q4.elim (fun z => Or.inl (wd.mpr z)) (fun z => Or.inr (r0.mpr z))) (q5.elim (fun z => Or.inl (fun w => z (w2.mp w))) (fun z => Or.inr (u1.mpr z)))
      -- a code that refuses
      have bad : ∀ (v : Int32), ¬ v = 0 → ¬ v = 213 → ¬ v = 257 → (¬ v = 426 ∧ ¬ v ≤ 0) → ¬ v = 331 → ¬ v = 350 → dg v = dgo v → (∀ (M3 : MzM) (K2 : MzM → Prop), A2 M3 (mz_si (nB m2 0 a) (30, 0) 32 (Int32.ofNat (spc (L2 43 0) + 1))) L2 → wp_Mo_answer v M3 (clrK a K2) → wp_Mo_doLine_111 (clrK a K2) (mz_i m2 (47, 0) 0) (mz_i m2 (48, 0) 0) (mz_i m2 (49, 0) 0) (Int32.ofNat (c15 + 1)) (eaI c15) (wrI c15) M3) → (∀ M105 : MzM, M105 = mz_si M8 (8, 0) 16 v → lnC 0 c15 K M105) := by
        intro v z0 z1 z2 z3 z4 z5 z6 hr
        rintro _ rfl
        have h9 := h8.si (o := (8, 0)) (k := 16) (v := v) rfl
        have e16 : mz_i (mz_si M8 (8, 0) 16 v) (8, 0) 16 = v := rfl
        have g : tl 0 c15 K (mz_si M8 (8, 0) 16 v) := pl_forget (v := v) false false false h9 rfl ⟨fun z => absurd z (by decide), fun z => absurd z z4⟩ ⟨fun z => absurd z (by decide), fun z => absurd z.1 z5⟩ ⟨fun z => absurd z (by decide), fun z => absurd z.1 z5⟩ (fin v z1 z2 z3 z6 (fun M2 K2 h2 hans => href M2 K2 h2 (fun M3 h3 => hr M3 K2 h3 (hans M3 _ h3))))
        exact ⟨fun _ => ⟨fun _ => g, fun z => absurd (e16.symm.trans z) z0⟩, fun z => absurd (e16.symm.trans z) z0⟩
      have f12 : mz_i (mS m1 0 (spc (L1 13 0)) fr vd) (12, 0) 3 = mz_i m1 (12, 0) 3 := rfl
      have f87 : mz_i (mS m1 0 (spc (L1 13 0)) fr vd) (8, 0) 7 = mz_i m1 (8, 0) 7 := rfl
      have f16 : mz_i (mS m1 0 (spc (L1 13 0)) fr vd) (16, 0) 1 = mz_i m1 (16, 0) 1 := rfl
      refine pl_refusal (c := c15) h8 e6 hcl hvd ?_ ?_ ?_ ?_ ?_ ?_
      · exact fun q1 => bad 500 (by decide) (by decide) (by decide) (by decide) (by decide) (by decide) (by decide) (fun M3 K2 h3 hans => ask M3 K2 h3 (fun _ => hans) (fun p1 => absurd p1 q1) (fun p1 => absurd p1 q1) (fun p1 => absurd p1 q1) (fun p1 => absurd p1 q1) (fun p1 => absurd p1 q1))
      · exact fun q1 q2 => bad 501 (by decide) (by decide) (by decide) (by decide) (by decide) (by decide) (by decide) (fun M3 K2 h3 hans => ask M3 K2 h3 (fun p1 => absurd q1 p1) (fun _ _ => hans) (fun _ p2 => absurd p2 q2) (fun _ p2 => absurd p2 q2) (fun _ p2 => absurd p2 q2) (fun _ p2 => absurd p2 q2))
      · exact fun q1 q2 q3 q4 => bad 530 (by decide) (by decide) (by decide) (by decide) (by decide) (by decide) (by decide) (fun M3 K2 h3 hans => ask M3 K2 h3 (fun p1 => absurd q1 p1) (fun _ p2 => absurd q2 p2) (fun _ _ _ _ => hans) (fun _ _ p3 => absurd p3 (fun z => z.elim q3 (fun w => w q4))) (fun _ _ p3 => absurd p3 (fun z => z.elim q3 (fun w => w q4))) (fun _ _ p3 => absurd p3 (fun z => z.elim q3 (fun w => w q4))))
      · exact fun q1 q2 q3 q4 q5 => bad 503 (by decide) (by decide) (by decide) (by decide) (by decide) (by decide) (by decide) (fun M3 K2 h3 hans => ask M3 K2 h3 (fun p1 => absurd q1 p1) (fun _ p2 => absurd q2 p2) (fun _ _ p3 p4 => absurd q3 (fun z => z.elim p3 (fun w => w p4))) (fun _ _ _ _ _ => hans) (fun _ _ _ p4 => absurd p4 (fun z => z.elim (fun w => w q4) q5)) (fun _ _ _ p4 => absurd p4 (fun z => z.elim (fun w => w q4) q5)))
      · exact fun q1 q2 q3 q4 q5 q6 => bad 550 (by decide) (by decide) (by decide) (by decide) (by decide) (by decide) (by decide) (fun M3 K2 h3 hans => ask M3 K2 h3 (fun p1 => absurd q1 p1) (fun _ p2 => absurd q2 p2) (fun _ _ p3 p4 => absurd q3 (fun z => z.elim p3 (fun w => w p4))) (fun _ _ _ p4 p5 => absurd q4 (fun z => z.elim (fun w => w p4) p5)) (fun _ _ _ _ _ _ => hans) (fun _ _ _ _ p5 => absurd p5 (fun z => z.elim (fun w => w q5) q6)))
      · intro q1 q2 q3 q4 q5
        rintro _ rfl
        have h9 := h8.si (o := (8, 0)) (k := 16) (v := 0) rfl
        have e16 : mz_i (mz_si M8 (8, 0) 16 0) (8, 0) 16 = 0 := rfl
        have g := hob c15 hc m1 m2 _ L1 L2 fr vd a ss K hE o0 ha q2 q3 q4 q5 hfr hss h9 (fun M1' hr => hk M1' (fun M2 K2 h2 hk2 => href M2 K2 h2 (fun M3 h3 => ask M3 K2 h3 (fun p1 => absurd q1 p1) (fun _ p2 => absurd q2 p2) (fun _ _ p3 p4 => absurd q3 (fun z => z.elim p3 (fun w => w p4))) (fun _ _ _ p4 p5 => absurd q4 (fun z => z.elim (fun w => w p4) p5)) (fun _ _ _ _ p5 p6 => absurd q5 (fun z => z.elim (fun w => w p5) p6)) (fun _ _ _ _ _ => hr M3 K2 h3 hk2))))
        exact ⟨fun z => absurd e16 z, fun _ => ⟨fun z => ⟨fun w => absurd e16 w, fun _ => g.2 z⟩, fun z => g.1 z⟩⟩
    · -- no command
      have h9 := h8.si (o := (8, 0)) (k := 16) (v := 500) rfl
      have e16 : mz_i (mz_si M8 (8, 0) 16 500) (8, 0) 16 = 500 := rfl
      have g : tlN 0 K (mz_si M8 (8, 0) 16 500) := by
        refine pl_forgetN h9 (by show ¬ (500 : Int32) = 331; decide) (fin 500 (by decide) (by decide) (by decide) (by decide) (fun M2 K2 h2 hans => ?_))
        refine mo_doLine h2 ha (by decide) hwd (fun _ M3 bg h3 => ?_) (fun c hc hm => absurd hm (by rw [← s3]; exact hn c hc))
        have s0 : (mz_i M3 (30, 0) 29).toInt = ((0 : Nat) : Int) := by rw [h3.1 30 29 rfl]; exact ha
        exact ⟨fun z => absurd z (by decide), fun _ => ⟨fun z => absurd z (by decide), fun _ => ⟨fun _ => ⟨0, s0, by decide, fun _ => hans M3 bg h3, fun _ => ⟨fun z => absurd rfl z, fun _ => hans M3 bg h3⟩⟩, fun z => absurd (by decide) z⟩⟩⟩
      have go : ∀ M21 : MzM, M21 = mz_si M8 (8, 0) 16 500 → ((¬ (mz_i M21 (8, 0) 16) = 0 → ((¬ (mz_i M21 (8, 0) 16) = 0 → tlN 0 K M21) ∧ ((mz_i M21 (8, 0) 16) = 0 → tlN 0 K M21))) ∧ ((mz_i M21 (8, 0) 16) = 0 → ((¬ (mz_i M21 (8, 0) 16) = 0 → tlN 0 K M21) ∧ ((mz_i M21 (8, 0) 16) = 0 → tlN 0 K M21)))) := by
        rintro _ rfl
        exact ⟨fun _ => ⟨fun _ => g, fun _ => g⟩, fun _ => ⟨fun _ => g, fun _ => g⟩⟩
      exact ⟨fun _ => go, fun _ => go⟩
  refine pl_split h (fun M5 h5 => ?_)
  have e6 : mz_i M5 (12, 0) 6 = Int32.ofNat (spc (L1 13 0)) := h5.1 (12, 0) 6 rfl
  obtain ⟨e2, _, _⟩ := h5.2.2.1 13 12 2 30 0 rfl
  rw [i32_succ e6, e2]
  refine pl_path h5 (by omega) (by omega) (fun ss hp M8 h8 => ?_) (fun hp M8 ss h8 => ?_)
  · exact rest M8 _ 1 ss rfl (by rw [hp]; rfl) (fun _ => hp) h8
  · exact rest M8 _ 0 ss rfl (by rw [hp]; rfl) (fun z => by rw [hp] at z; cases z) h8
/-- nothing has been obeyed: what holds before the answer v -/
theorem ee_base_1 {m1 m2 : MzM} {L1 L2 : MzV} (hE : EE m1 L1 m2 L2) (o0 : mz_i m2 (39, 0) 1 = 0) (cl : Nat) (fr vd v a bg : Int32) (ss : List Int32) : EE (fgM (mz_si (mS m1 1 cl fr vd) (8, 1) 16 v) 1 false false false) (lu L1 15 1 ss) (mz_si (nB m2 1 a) (30, 0) 32 bg) L2 := by
  obtain ⟨s1, s2, s3, s4, s5, s6, s7, s8, s9, s10, s11, s12, s13, s14, s15, s16⟩ := hE.2.1
  exact ⟨hE.1, ⟨s1, s2, s3, Or.inl ⟨o0, rfl⟩, rfl, s6, s7, Or.inl ⟨rfl, rfl⟩, ⟨rfl, Or.inl rfl⟩, ⟨rfl, 0, by decide, rfl⟩, s11, s12, s13, s14, s15, s16⟩, hE.2.2⟩
theorem finR_1 {m1 m2 mo nb M1 : MzM} {LO L2O : MzV} {v a : Int32} {K : MzM → Prop} (hE : EE mo LO nb L2O) (ha : a.toInt = ((1 : Nat) : Int)) (hs : (mz_i nb (30, 0) 29).toInt = ((1 : Nat) : Int)) (hf : mz_i nb (30, 0) 30 = 0) (h213 : ¬ v = 213) (h257 : ¬ v = 257) (h426 : (¬ v = 426 ∧ ¬ v ≤ 0)) (hdg : dg v = dgo v) (ho : mz_i nb (39, 0) 1 = 0 ∧ mz_i nb (40, 0) 1 = 0) (hcp : cpF m1 m2 mo nb) (hv : mz_i mo (8, 1) 16 = v) (h1 : A1 M1 mo LO) (hk : ∀ M1', (∀ (bg : Int32) (M2 : MzM) (K2 : MzM → Prop), A2 M2 (mz_si nb (30, 0) 32 bg) L2O → (∀ M2', OL m1 m2 1 M1' M2' → K2 M2') → wp_Mo_answer v M2 (clrK a K2)) → K M1') : tlA 1 K M1 := by
  refine pl_tail5 h1 hv h213 h257 h426.1 (nsp_1 hE) (fun M1' ds h1' => hk M1' (fun bg M2 K2 h2 hk2 => ?_))
  have hE' : EE mo LO (mz_si nb (30, 0) 32 bg) L2O := hE
  have hs' : (mz_i (mz_si nb (30, 0) 32 bg) (30, 0) 29).toInt = ((1 : Nat) : Int) := hs
  have hf' : mz_i (mz_si nb (30, 0) 32 bg) (30, 0) 30 = 0 := hf
  refine mo_answer h2 hs' (by decide) (fun M3 h3 => mo_clr h3 ha (by decide) (fun M4 h4 => hk2 M4 ?_))
  have hq : L2O 45 1 = LO 9 1 := (hE.2.1).2.1.symm
  rw [hq, ← hdg] at h4
  refine ⟨_, _, _, _, h1', h4, ee_line_1 hE' ds _ _, hcp, ho, ⟨?_, posv hv h426.2⟩, fun z => absurd (hv.symm.trans z) h213⟩
  show mz_i mo (8, 1) 16 = fa (mz_si nb (30, 0) 32 bg) v
  rw [hv, fa_0 hf']
theorem lin_1 {m1 m2 M : MzM} {L1 L2 : MzV} {a : Int32} {K : MzM → Prop} (hob : ∀ c : Nat, c < 21 → obPred 1 c) (hE : EE m1 L1 m2 L2) (o0 : mz_i m2 (39, 0) 1 = 0) (ha : a.toInt = ((1 : Nat) : Int)) (h : A1 M (mz_si (mz_si m1 (12, 1) 4 0) (12, 1) 5 0) L1) (hk : ∀ M1', (∀ (M2 : MzM) (K2 : MzM → Prop), A2 M2 (nA m2 1 a) L2 → (∀ M2', OL m1 m2 1 M1' M2' → K2 M2') → wp_Mo_doLine M2 (clrK a K2)) → K M1') : lnA 1 K M := by
  obtain ⟨s1, s2, s3, s4, s5, s6, s7, s8, s9, s10, s11, s12, s13, s14, s15, s16⟩ := hE.2.1
  have hcl := spc_le (L1 13 1)
  have h30 : (L1 13 1).length ≤ 30 := (h.line 1).2.1
  have hr53 : mz_i m2 (53, 0) 1 = 0 ∨ mz_i m2 (53, 0) 1 = 1 ∨ mz_i m2 (53, 0) 1 = 2 := by
    rcases s16 with t | t | t
    · exact Or.inl t.1
    · exact Or.inr (Or.inl t.1)
    · exact Or.inr (Or.inr t.1)
  have u0 : mz_i m1 (8, 1) 7 = 0 ↔ mz_i m2 (46, 0) 1 = 0 := by
    rcases s7 with ⟨p, q⟩ | ⟨p, q⟩ | ⟨p, q⟩ <;> rw [p, q] <;> decide
  have u1 : mz_i m1 (8, 1) 7 = 1 ↔ mz_i m2 (46, 0) 1 = 2 := by
    rcases s7 with ⟨p, q⟩ | ⟨p, q⟩ | ⟨p, q⟩ <;> rw [p, q] <;> decide
  have r0 : mz_i m1 (16, 1) 1 = 0 ↔ mz_i m2 (53, 0) 1 ≤ 0 := by
    rw [s14]
    rcases hr53 with q | q | q <;> rw [q] <;> decide
  have hwd : wdE m2 := hE.2.2.2.2.2.2.2.1
  have rest : ∀ (M8 : MzM) (fr vd : Int32) (ss : List Int32), fr = frI (L1 13 1) (spc (L1 13 1) + 1) → vd = (if (pth (L1 13 1) (spc (L1 13 1) + 1)).isSome = true then 1 else 0) → ((pth (L1 13 1) (spc (L1 13 1) + 1)).isSome = true → pth (L1 13 1) (spc (L1 13 1) + 1) = some ss) → A1 M8 (mS m1 1 (spc (L1 13 1)) fr vd) (lu L1 15 1 ss) → wp_Ses_recognise 1 M8 (lnK 1 K) := by
    intro M8 fr vd ss hfr hvd hss h8
    have e6 : mz_i (mS m1 1 (spc (L1 13 1)) fr vd) (12, 1) 6 = Int32.ofNat (spc (L1 13 1)) := rfl
    -- a refused line with its code
    have fin : ∀ (v : Int32), ¬ v = 213 → ¬ v = 257 → (¬ v = 426 ∧ ¬ v ≤ 0) → dg v = dgo v → (∀ (M2 : MzM) (K2 : MzM → Prop), A2 M2 (nA m2 1 a) L2 → (∀ M3 bg', A2 M3 (mz_si (nB m2 1 a) (30, 0) 32 bg') L2 → wp_Mo_answer v M3 (clrK a K2)) → wp_Mo_doLine M2 (clrK a K2)) → ∀ (M9 : MzM), A1 M9 (fgM (mz_si (mS m1 1 (spc (L1 13 1)) fr vd) (8, 1) 16 v) 1 false false false) (lu L1 15 1 ss) → tlA 1 K M9 := by
      intro v g1 g2 g3 g4 href M9 h9
      exact finR_1 (m1 := m1) (m2 := m2) (v := v) (a := a) (nb := nB m2 1 a) (ee_base_1 hE o0 _ fr vd v a 0 ss) ha ha rfl g1 g2 g3 g4 ⟨o0, rfl⟩ ⟨fun _ => rfl, rfl, rfl, rfl, rfl, rfl, rfl, rfl, rfl, rfl⟩ rfl h9 (fun M1' hr => hk M1' (fun M2 K2 h2 hk2 => href M2 K2 h2 (fun M3 bg' h3 => hr bg' M3 K2 h3 hk2)))
    refine pl_recognise h8 e6 hcl (fun c hc hm => ⟨fun z => absurd z (by simp), fun c15 hc15 hcc => ?_⟩) (fun hn => ⟨fun _ => ?_, fun c15 _ z => absurd z (by simp)⟩)
    · have ecc : c15 = c := (Option.some.inj hcc).symm
      subst ecc
      obtain ⟨w0, w2, wd⟩ := tab_facts c15 hc
      -- the reference as far as its questions
      have href : ∀ (M2 : MzM) (K2 : MzM → Prop), A2 M2 (nA m2 1 a) L2 → (∀ M3, A2 M3 (mz_si (nB m2 1 a) (30, 0) 32 (Int32.ofNat (spc (L2 43 1) + 1))) L2 → wp_Mo_doLine_111 (clrK a K2) (mz_i m2 (47, 0) 1) (mz_i m2 (48, 0) 1) (mz_i m2 (49, 0) 1) (Int32.ofNat (c15 + 1)) (eaI c15) (wrI c15) M3) → wp_Mo_doLine M2 (clrK a K2) := by
        intro M2 K2 h2 h111
        have hm2 : mtc (L2 43 1) (wdL c15) (spc (L2 43 1)) := by rw [← s3]; exact hm
        refine mo_doLine h2 ha (by decide) hwd (fun hn => absurd hm2 (hn c15 hc)) (fun c' hc' hm' M3 h3 => ?_)
        have e := mtc_uniq hc hc' hm2 hm'
        subst e
        exact mo_83 hc (h111 M3 h3)
      have b31 : spc (L2 43 1) + 1 ≤ 31 := by rw [← s3]; omega
      -- the questions of the reference, answered
      have ask : ∀ (M3 : MzM) (K2 : MzM → Prop), A2 M3 (mz_si (nB m2 1 a) (30, 0) 32 (Int32.ofNat (spc (L2 43 1) + 1))) L2 → (¬ mz_i m1 (12, 1) 3 = 0 → wp_Mo_answer 500 M3 (clrK a K2)) → (mz_i m1 (12, 1) 3 = 0 → ¬ fitK (L1 13 1) (spc (L1 13 1) + 1) (mzCmdA.getD c15 0) → wp_Mo_answer 501 M3 (clrK a K2)) → (mz_i m1 (12, 1) 3 = 0 → fitK (L1 13 1) (spc (L1 13 1) + 1) (mzCmdA.getD c15 0) → ¬ mzCmdWho.getD c15 0 = 0 → mz_i m1 (8, 1) 7 = 0 → wp_Mo_answer 530 M3 (clrK a K2)) → (mz_i m1 (12, 1) 3 = 0 → fitK (L1 13 1) (spc (L1 13 1) + 1) (mzCmdA.getD c15 0) → (mzCmdWho.getD c15 0 = 0 ∨ ¬ mz_i m1 (8, 1) 7 = 0) → mzCmdD.getD c15 0 = 0 → ¬ mz_i m1 (16, 1) 1 = 0 → wp_Mo_answer 503 M3 (clrK a K2)) → (mz_i m1 (12, 1) 3 = 0 → fitK (L1 13 1) (spc (L1 13 1) + 1) (mzCmdA.getD c15 0) → (mzCmdWho.getD c15 0 = 0 ∨ ¬ mz_i m1 (8, 1) 7 = 0) → (¬ mzCmdD.getD c15 0 = 0 ∨ mz_i m1 (16, 1) 1 = 0) → mzCmdWho.getD c15 0 = 2 → ¬ mz_i m1 (8, 1) 7 = 1 → wp_Mo_answer 550 M3 (clrK a K2)) → (mz_i m1 (12, 1) 3 = 0 → fitK (L1 13 1) (spc (L1 13 1) + 1) (mzCmdA.getD c15 0) → (mzCmdWho.getD c15 0 = 0 ∨ ¬ mz_i m1 (8, 1) 7 = 0) → (¬ mzCmdD.getD c15 0 = 0 ∨ mz_i m1 (16, 1) 1 = 0) → (¬ mzCmdWho.getD c15 0 = 2 ∨ mz_i m1 (8, 1) 7 = 1) → wp_Mo_doLine_255 (clrK a K2) (mz_i m2 (47, 0) 1) (mz_i m2 (48, 0) 1) (mz_i m2 (49, 0) 1) (Int32.ofNat (c15 + 1)) (eaI c15) M3) → wp_Mo_doLine_111 (clrK a K2) (mz_i m2 (47, 0) 1) (mz_i m2 (48, 0) 1) (mz_i m2 (49, 0) 1) (Int32.ofNat (c15 + 1)) (eaI c15) (wrI c15) M3 := by
        intro M3 K2 h3 k500 k501 k530 k503 k550 k0
        have n42 : mz_i (mz_si (nB m2 1 a) (30, 0) 32 (Int32.ofNat (spc (L2 43 1) + 1))) (42, 0) 1 = mz_i m1 (12, 1) 3 := s6.symm
        have n46 : mz_i (mz_si (nB m2 1 a) (30, 0) 32 (Int32.ofNat (spc (L2 43 1) + 1))) (46, 0) 1 = mz_i m2 (46, 0) 1 := rfl
        have n53 : mz_i (mz_si (nB m2 1 a) (30, 0) 32 (Int32.ofNat (spc (L2 43 1) + 1))) (53, 0) 1 = mz_i m2 (53, 0) 1 := rfl
        refine mo_111 (b := spc (L2 43 1) + 1) (c := c15) h3 ha (by decide) rfl b31 hc (eaI_iff c15) (wrI_iff c15) ?_ ?_ ?_ ?_ ?_ ?_
        all_goals rw [n42]
        all_goals try rw [n46]
        all_goals try rw [n53]
        all_goals try rw [← s3]
        · exact k500
        · exact k501
        · exact fun q1 q2 q3 q4 => k530 q1 q2 (fun z => q3 (w0.mp z)) (u0.mpr q4)
        · exact fun q1 q2 q3 q4 q5 => k503 q1 q2 (q3.elim (fun z => Or.inl (w0.mpr z)) (fun z => Or.inr (fun w => z (u0.mp w)))) (Decidable.byContradiction (fun z => q4 (wd.mp z))) (fun z => q5 (r0.mp z))
        · exact fun q1 q2 q3 q4 q5 q6 => k550 q1 q2 (q3.elim (fun z => Or.inl (w0.mpr z)) (fun z => Or.inr (fun w => z (u0.mp w)))) (q4.elim (fun z => Or.inl (wd.mpr z)) (fun z => Or.inr (r0.mpr z))) (w2.mpr q5) (fun z => q6 (u1.mp z))
        · exact fun q1 q2 q3 q4 q5 => k0 q1 q2 (q3.elim (fun z => Or.inl (w0.mpr z)) (fun z => Or.inr (fun w => z (u0.mp w)))) (q4.elim (fun z => Or.inl (wd.mpr z)) (fun z => Or.inr (r0.mpr z))) (q5.elim (fun z => Or.inl (fun w => z (w2.mp w))) (fun z => Or.inr (u1.mpr z)))
      -- a code that refuses
      have bad : ∀ (v : Int32), ¬ v = 0 → ¬ v = 213 → ¬ v = 257 → (¬ v = 426 ∧ ¬ v ≤ 0) → ¬ v = 331 → ¬ v = 350 → dg v = dgo v → (∀ (M3 : MzM) (K2 : MzM → Prop), A2 M3 (mz_si (nB m2 1 a) (30, 0) 32 (Int32.ofNat (spc (L2 43 1) + 1))) L2 → wp_Mo_answer v M3 (clrK a K2) → wp_Mo_doLine_111 (clrK a K2) (mz_i m2 (47, 0) 1) (mz_i m2 (48, 0) 1) (mz_i m2 (49, 0) 1) (Int32.ofNat (c15 + 1)) (eaI c15) (wrI c15) M3) → (∀ M105 : MzM, M105 = mz_si M8 (8, 1) 16 v → lnC 1 c15 K M105) := by
        intro v z0 z1 z2 z3 z4 z5 z6 hr
        rintro _ rfl
        have h9 := h8.si (o := (8, 1)) (k := 16) (v := v) rfl
        have e16 : mz_i (mz_si M8 (8, 1) 16 v) (8, 1) 16 = v := rfl
        have g : tl 1 c15 K (mz_si M8 (8, 1) 16 v) := pl_forget (v := v) false false false h9 rfl ⟨fun z => absurd z (by decide), fun z => absurd z z4⟩ ⟨fun z => absurd z (by decide), fun z => absurd z.1 z5⟩ ⟨fun z => absurd z (by decide), fun z => absurd z.1 z5⟩ (fin v z1 z2 z3 z6 (fun M2 K2 h2 hans => href M2 K2 h2 (fun M3 h3 => hr M3 K2 h3 (hans M3 _ h3))))
        exact ⟨fun _ => ⟨fun _ => g, fun z => absurd (e16.symm.trans z) z0⟩, fun z => absurd (e16.symm.trans z) z0⟩
      have f12 : mz_i (mS m1 1 (spc (L1 13 1)) fr vd) (12, 1) 3 = mz_i m1 (12, 1) 3 := rfl
      have f87 : mz_i (mS m1 1 (spc (L1 13 1)) fr vd) (8, 1) 7 = mz_i m1 (8, 1) 7 := rfl
      have f16 : mz_i (mS m1 1 (spc (L1 13 1)) fr vd) (16, 1) 1 = mz_i m1 (16, 1) 1 := rfl
      refine pl_refusal (c := c15) h8 e6 hcl hvd ?_ ?_ ?_ ?_ ?_ ?_
      · exact fun q1 => bad 500 (by decide) (by decide) (by decide) (by decide) (by decide) (by decide) (by decide) (fun M3 K2 h3 hans => ask M3 K2 h3 (fun _ => hans) (fun p1 => absurd p1 q1) (fun p1 => absurd p1 q1) (fun p1 => absurd p1 q1) (fun p1 => absurd p1 q1) (fun p1 => absurd p1 q1))
      · exact fun q1 q2 => bad 501 (by decide) (by decide) (by decide) (by decide) (by decide) (by decide) (by decide) (fun M3 K2 h3 hans => ask M3 K2 h3 (fun p1 => absurd q1 p1) (fun _ _ => hans) (fun _ p2 => absurd p2 q2) (fun _ p2 => absurd p2 q2) (fun _ p2 => absurd p2 q2) (fun _ p2 => absurd p2 q2))
      · exact fun q1 q2 q3 q4 => bad 530 (by decide) (by decide) (by decide) (by decide) (by decide) (by decide) (by decide) (fun M3 K2 h3 hans => ask M3 K2 h3 (fun p1 => absurd q1 p1) (fun _ p2 => absurd q2 p2) (fun _ _ _ _ => hans) (fun _ _ p3 => absurd p3 (fun z => z.elim q3 (fun w => w q4))) (fun _ _ p3 => absurd p3 (fun z => z.elim q3 (fun w => w q4))) (fun _ _ p3 => absurd p3 (fun z => z.elim q3 (fun w => w q4))))
      · exact fun q1 q2 q3 q4 q5 => bad 503 (by decide) (by decide) (by decide) (by decide) (by decide) (by decide) (by decide) (fun M3 K2 h3 hans => ask M3 K2 h3 (fun p1 => absurd q1 p1) (fun _ p2 => absurd q2 p2) (fun _ _ p3 p4 => absurd q3 (fun z => z.elim p3 (fun w => w p4))) (fun _ _ _ _ _ => hans) (fun _ _ _ p4 => absurd p4 (fun z => z.elim (fun w => w q4) q5)) (fun _ _ _ p4 => absurd p4 (fun z => z.elim (fun w => w q4) q5)))
      · exact fun q1 q2 q3 q4 q5 q6 => bad 550 (by decide) (by decide) (by decide) (by decide) (by decide) (by decide) (by decide) (fun M3 K2 h3 hans => ask M3 K2 h3 (fun p1 => absurd q1 p1) (fun _ p2 => absurd q2 p2) (fun _ _ p3 p4 => absurd q3 (fun z => z.elim p3 (fun w => w p4))) (fun _ _ _ p4 p5 => absurd q4 (fun z => z.elim (fun w => w p4) p5)) (fun _ _ _ _ _ _ => hans) (fun _ _ _ _ p5 => absurd p5 (fun z => z.elim (fun w => w q5) q6)))
      · intro q1 q2 q3 q4 q5
        rintro _ rfl
        have h9 := h8.si (o := (8, 1)) (k := 16) (v := 0) rfl
        have e16 : mz_i (mz_si M8 (8, 1) 16 0) (8, 1) 16 = 0 := rfl
        have g := hob c15 hc m1 m2 _ L1 L2 fr vd a ss K hE o0 ha q2 q3 q4 q5 hfr hss h9 (fun M1' hr => hk M1' (fun M2 K2 h2 hk2 => href M2 K2 h2 (fun M3 h3 => ask M3 K2 h3 (fun p1 => absurd q1 p1) (fun _ p2 => absurd q2 p2) (fun _ _ p3 p4 => absurd q3 (fun z => z.elim p3 (fun w => w p4))) (fun _ _ _ p4 p5 => absurd q4 (fun z => z.elim (fun w => w p4) p5)) (fun _ _ _ _ p5 p6 => absurd q5 (fun z => z.elim (fun w => w p5) p6)) (fun _ _ _ _ _ => hr M3 K2 h3 hk2))))
        exact ⟨fun z => absurd e16 z, fun _ => ⟨fun z => ⟨fun w => absurd e16 w, fun _ => g.2 z⟩, fun z => g.1 z⟩⟩
    · -- no command
      have h9 := h8.si (o := (8, 1)) (k := 16) (v := 500) rfl
      have e16 : mz_i (mz_si M8 (8, 1) 16 500) (8, 1) 16 = 500 := rfl
      have g : tlN 1 K (mz_si M8 (8, 1) 16 500) := by
        refine pl_forgetN h9 (by show ¬ (500 : Int32) = 331; decide) (fin 500 (by decide) (by decide) (by decide) (by decide) (fun M2 K2 h2 hans => ?_))
        refine mo_doLine h2 ha (by decide) hwd (fun _ M3 bg h3 => ?_) (fun c hc hm => absurd hm (by rw [← s3]; exact hn c hc))
        have s0 : (mz_i M3 (30, 0) 29).toInt = ((1 : Nat) : Int) := by rw [h3.1 30 29 rfl]; exact ha
        exact ⟨fun z => absurd z (by decide), fun _ => ⟨fun z => absurd z (by decide), fun _ => ⟨fun _ => ⟨1, s0, by decide, fun _ => hans M3 bg h3, fun _ => ⟨fun z => absurd rfl z, fun _ => hans M3 bg h3⟩⟩, fun z => absurd (by decide) z⟩⟩⟩
      have go : ∀ M21 : MzM, M21 = mz_si M8 (8, 1) 16 500 → ((¬ (mz_i M21 (8, 1) 16) = 0 → ((¬ (mz_i M21 (8, 1) 16) = 0 → tlN 1 K M21) ∧ ((mz_i M21 (8, 1) 16) = 0 → tlN 1 K M21))) ∧ ((mz_i M21 (8, 1) 16) = 0 → ((¬ (mz_i M21 (8, 1) 16) = 0 → tlN 1 K M21) ∧ ((mz_i M21 (8, 1) 16) = 0 → tlN 1 K M21)))) := by
        rintro _ rfl
        exact ⟨fun _ => ⟨fun _ => g, fun _ => g⟩, fun _ => ⟨fun _ => g, fun _ => g⟩⟩
      exact ⟨fun _ => go, fun _ => go⟩
  refine pl_split h (fun M5 h5 => ?_)
  have e6 : mz_i M5 (12, 1) 6 = Int32.ofNat (spc (L1 13 1)) := h5.1 (12, 1) 6 rfl
  obtain ⟨e2, _, _⟩ := h5.2.2.1 13 12 2 30 1 rfl
  rw [i32_succ e6, e2]
  refine pl_path h5 (by omega) (by omega) (fun ss hp M8 h8 => ?_) (fun hp M8 ss h8 => ?_)
  · exact rest M8 _ 1 ss rfl (by rw [hp]; rfl) (fun _ => hp) h8
  · exact rest M8 _ 0 ss rfl (by rw [hp]; rfl) (fun z => by rw [hp] at z; cases z) h8
