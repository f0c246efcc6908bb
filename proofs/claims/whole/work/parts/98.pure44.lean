theorem mtc_uniq {l : List Int32} {cl c c' : Nat} (hc : c < 21) (hc' : c' < 21) (h : mtc l (wdL c) cl) (h' : mtc l (wdL c') cl) : c' = c := by
  have e := (mtc_good hc h).2.2.symm.trans (mtc_good hc' h').2.2
  have := ofN_inj (by omega) (by omega) e
  omega
def wrI (c : Nat) : Int32 := if c = 12 ∨ c = 13 ∨ 16 ≤ c then 1 else 0
theorem wrI_iff (c : Nat) : ¬ wrI c = 0 ↔ (c = 12 ∨ c = 13 ∨ 16 ≤ c) := by
  unfold wrI
  by_cases h : c = 12 ∨ c = 13 ∨ 16 ≤ c
  · rw [if_pos h]
    exact ⟨fun _ => h, fun _ => by decide⟩
  · rw [if_neg h]
    exact ⟨fun z => absurd rfl z, fun z => absurd z h⟩
def eaI (c : Nat) : Int32 := if c < 4 then 1 else 0
theorem eaI_iff (c : Nat) : ¬ eaI c = 0 ↔ c < 4 := by
  unfold eaI
  by_cases h : c < 4
  · rw [if_pos h]
    exact ⟨fun _ => h, fun _ => by decide⟩
  · rw [if_neg h]
    exact ⟨fun z => absurd rfl z, fun z => absurd z h⟩
theorem mo_83 {c : Nat} {y1 y2 y3 e : Int32} {M : MzM} {K : MzM → Prop} (hc : c < 21) (h : wp_Mo_doLine_111 K y1 y2 y3 (Int32.ofNat (c + 1)) e (wrI c) M) : wp_Mo_doLine_83 K y1 y2 y3 (Int32.ofNat (c + 1)) e M := by
  have vne : ∀ k : Nat, k < 100 → (Int32.ofNat (c + 1) = Int32.ofNat k ↔ c + 1 = k) := fun k hk => ⟨fun z => ofN_inj (by omega) (by omega) z, fun z => by rw [z]⟩
  have tc : (Int32.ofNat (c + 1)).toInt = ((c + 1 : Nat) : Int) := itn (by omega)
  refine ⟨fun z => ?_, fun z => ⟨fun z2 => ?_, fun z2 => ⟨fun z3 => ?_, fun z3 => ?_⟩⟩⟩
  · have q := (vne 13 (by decide)).mp z
    have e1 : wrI c = 1 := if_pos (by omega)
    rw [e1] at h
    exact h
  · have q := (vne 14 (by decide)).mp z2
    have e1 : wrI c = 1 := if_pos (by omega)
    rw [e1] at h
    exact h
  · have q1 : ¬ c + 1 = 13 := fun w => z ((vne 13 (by decide)).mpr w)
    have q2 : ¬ c + 1 = 14 := fun w => z2 ((vne 14 (by decide)).mpr w)
    have q3 := (ilt (n := 17) tc rfl).mp z3
    have e1 : wrI c = 0 := if_neg (by omega)
    rw [e1] at h
    exact h
  · have q3 : ¬ ((c + 1 : Nat) : Int) < 17 := fun w => z3 ((ilt (n := 17) tc rfl).mpr w)
    have e1 : wrI c = 1 := if_pos (by omega)
    rw [e1] at h
    exact h
/-- the class's places when a line has been parted -/
def mS (m1 : MzM) (x cl : Nat) (fr vd : Int32) : MzM := mz_si (mz_si (mz_si (mz_si (mz_si m1 (12, x) 4 0) (12, x) 5 0) (12, x) 6 (Int32.ofNat cl)) (14, x) 2 fr) (14, x) 3 vd
/-- what a command must do, of class and reference -/
def obPred (X c : Nat) : Prop := ∀ (m1 m2 M : MzM) (L1 L2 : MzV) (fr vd a : Int32) (ss : List Int32) (K : MzM → Prop), EE m1 L1 m2 L2 → mz_i m2 (39, 0) X = 0 → a.toInt = (X : Int) → fitK (L1 13 X) (spc (L1 13 X) + 1) (mzCmdA.getD c 0) → (mzCmdWho.getD c 0 = 0 ∨ ¬ mz_i m1 (8, X) 7 = 0) → (¬ mzCmdD.getD c 0 = 0 ∨ mz_i m1 (16, X) 1 = 0) → (¬ mzCmdWho.getD c 0 = 2 ∨ mz_i m1 (8, X) 7 = 1) → fr = frI (L1 13 X) (spc (L1 13 X) + 1) → ((pth (L1 13 X) (spc (L1 13 X) + 1)).isSome = true → pth (L1 13 X) (spc (L1 13 X) + 1) = some ss) → A1 M (mz_si (mS m1 X (spc (L1 13 X)) fr vd) (8, X) 16 0) (lu L1 15 X ss) → (∀ M1', (∀ (M2 : MzM) (K2 : MzM → Prop), A2 M2 (mz_si (nB m2 X a) (30, 0) 32 (Int32.ofNat (spc (L2 43 X) + 1))) L2 → (∀ M2', OL m1 m2 X M1' M2' → K2 M2') → wp_Mo_doLine_255 (clrK a K2) (mz_i m2 (47, 0) X) (mz_i m2 (48, 0) X) (mz_i m2 (49, 0) X) (Int32.ofNat (c + 1)) (eaI c) M2) → K M1') →
  ((mzCmdA.getD c 0 = 4 → wp_Ses_locate X M (fun M194 => wp_Ses_obeyPath X c M194 (fun v M197 => (∀ M201 : MzM, M201 = mz_si M197 (8, X) 16 v → tl X c K M201)))) ∧ (¬ mzCmdA.getD c 0 = 4 → wp_Ses_obeyPlain X c M (fun v M125 => (∀ M129 : MzM, M129 = mz_si M125 (8, X) 16 v → tl X c K M129))))
/-- nothing has been obeyed: what holds before the answer v -/
theorem ee_base_0 {m1 m2 : MzM} {L1 L2 : MzV} (hE : EE m1 L1 m2 L2) (o0 : mz_i m2 (39, 0) 0 = 0) (cl : Nat) (fr vd v a bg : Int32) (ss : List Int32) : EE (fgM (mz_si (mS m1 0 cl fr vd) (8, 0) 16 v) 0 false false false) (lu L1 15 0 ss) (mz_si (nB m2 0 a) (30, 0) 32 bg) L2 := by
  obtain ⟨s1, s2, s3, s4, s5, s6, s7, s8, s9, s10, s11, s12, s13, s14, s15, s16⟩ := hE.1
  exact ⟨⟨s1, s2, s3, Or.inl ⟨o0, rfl⟩, rfl, s6, s7, Or.inl ⟨rfl, rfl⟩, ⟨rfl, Or.inl rfl⟩, ⟨rfl, 0, by decide, rfl⟩, s11, s12, s13, s14, s15, s16⟩, hE.2.1, hE.2.2⟩
theorem lin_0 {m1 m2 M : MzM} {L1 L2 : MzV} {a : Int32} {K : MzM → Prop} (hob : ∀ c : Nat, c < 21 → obPred 0 c) (hE : EE m1 L1 m2 L2) (o0 : mz_i m2 (39, 0) 0 = 0) (ha : a.toInt = ((0 : Nat) : Int)) (h : A1 M (mz_si (mz_si m1 (12, 0) 4 0) (12, 0) 5 0) L1) (hk : ∀ M1', (∀ (M2 : MzM) (K2 : MzM → Prop), A2 M2 (nA m2 0 a) L2 → (∀ M2', OL m1 m2 0 M1' M2' → K2 M2') → wp_Mo_doLine M2 (clrK a K2)) → K M1') : ∀ v4 : Int32, ¬ v4 = 0 → ((¬ v4 = 0 → wp_Lin_split 0 M (fun M5 => wp_Path_read 0 ((mz_i M5 (12, 0) 6) + (1 : Int32)) (mz_i M5 (12, 0) 2) M5 (fun M8 => wp_Ses_recognise 0 M8 (fun o14 M11 => ((o14 = none → wp_Ses_refusalN 0 M11 (fun v20 M17 => (∀ M21 : MzM, M21 = mz_si M17 (8, 0) 16 v20 → ((¬ (mz_i M21 (8, 0) 16) = 0 → ((¬ (mz_i M21 (8, 0) 16) = 0 → tlN 0 K M21) ∧ ((mz_i M21 (8, 0) 16) = 0 → tlN 0 K M21))) ∧ ((mz_i M21 (8, 0) 16) = 0 → ((¬ (mz_i M21 (8, 0) 16) = 0 → tlN 0 K M21) ∧ ((mz_i M21 (8, 0) 16) = 0 → tlN 0 K M21))))))) ∧ (∀ c15 : Nat, c15 < 21 → o14 = some c15 → wp_Ses_refusal 0 c15 M11 (fun v104 M101 => (∀ M105 : MzM, M105 = mz_si M101 (8, 0) 16 v104 → ((¬ (mz_i M105 (8, 0) 16) = 0 → ((¬ (mz_i M105 (8, 0) 16) = 0 → tl 0 c15 K M105) ∧ ((mz_i M105 (8, 0) 16) = 0 → wp_Ses_obeyPlain 0 c15 M105 (fun v128 M125 => (∀ M129 : MzM, M129 = mz_si M125 (8, 0) 16 v128 → tl 0 c15 K M129))))) ∧ ((mz_i M105 (8, 0) 16) = 0 → ((¬ (mzCmdA.getD c15 0) = (4 : Int32) → ((¬ (mz_i M105 (8, 0) 16) = 0 → tl 0 c15 K M105) ∧ ((mz_i M105 (8, 0) 16) = 0 → wp_Ses_obeyPlain 0 c15 M105 (fun v172 M169 => (∀ M173 : MzM, M173 = mz_si M169 (8, 0) 16 v172 → tl 0 c15 K M173))))) ∧ ((mzCmdA.getD c15 0) = (4 : Int32) → wp_Ses_locate 0 M105 (fun M194 => wp_Ses_obeyPath 0 c15 M194 (fun v200 M197 => (∀ M201 : MzM, M201 = mz_si M197 (8, 0) 16 v200 → tl 0 c15 K M201)))))))))))))) ∧ (v4 = 0 → K M)) := by
  intro v4 hv4
  refine ⟨fun _ => ?_, fun z => absurd z hv4⟩
  obtain ⟨s1, s2, s3, s4, s5, s6, s7, s8, s9, s10, s11, s12, s13, s14, s15, s16⟩ := hE.1
  have hcl := spc_le (L1 13 0)
  have sl : spc (L2 43 0) = spc (L1 13 0) := by rw [s3]
  have h30 : (L1 13 0).length ≤ 30 := (h.line 0).2.1
  have hr53 : mz_i m2 (53, 0) 0 = 0 ∨ mz_i m2 (53, 0) 0 = 1 ∨ mz_i m2 (53, 0) 0 = 2 := by
    rcases s16 with t | t | t
    · exact Or.inl t.1
    · exact Or.inr (Or.inl t.1)
    · exact Or.inr (Or.inr t.1)
  have u0 : mz_i m1 (8, 0) 7 = 0 ↔ mz_i m2 (46, 0) 0 = 0 := by
    rcases s7 with ⟨p, q⟩ | ⟨p, q⟩ | ⟨p, q⟩ <;> rw [p, q] <;> decide
  have u1 : mz_i m1 (8, 0) 7 = 1 ↔ mz_i m2 (46, 0) 0 = 2 := by
    rcases s7 with ⟨p, q⟩ | ⟨p, q⟩ | ⟨p, q⟩ <;> rw [p, q] <;> decide
  have r0 : mz_i m1 (16, 0) 1 = 0 ↔ mz_i m2 (53, 0) 0 ≤ 0 := by
    rw [s14]
    rcases hr53 with q | q | q <;> rw [q] <;> decide
  have rest : ∀ (M8 : MzM) (fr vd : Int32) (ss : List Int32), fr = frI (L1 13 0) (spc (L1 13 0) + 1) → vd = (if (pth (L1 13 0) (spc (L1 13 0) + 1)).isSome = true then 1 else 0) → ((pth (L1 13 0) (spc (L1 13 0) + 1)).isSome = true → pth (L1 13 0) (spc (L1 13 0) + 1) = some ss) → A1 M8 (mS m1 0 (spc (L1 13 0)) fr vd) (lu L1 15 0 ss) → wp_Ses_recognise 0 M8 (fun o14 M11 => ((o14 = none → wp_Ses_refusalN 0 M11 (fun v20 M17 => (∀ M21 : MzM, M21 = mz_si M17 (8, 0) 16 v20 → ((¬ (mz_i M21 (8, 0) 16) = 0 → ((¬ (mz_i M21 (8, 0) 16) = 0 → tlN 0 K M21) ∧ ((mz_i M21 (8, 0) 16) = 0 → tlN 0 K M21))) ∧ ((mz_i M21 (8, 0) 16) = 0 → ((¬ (mz_i M21 (8, 0) 16) = 0 → tlN 0 K M21) ∧ ((mz_i M21 (8, 0) 16) = 0 → tlN 0 K M21))))))) ∧ (∀ c15 : Nat, c15 < 21 → o14 = some c15 → wp_Ses_refusal 0 c15 M11 (fun v104 M101 => (∀ M105 : MzM, M105 = mz_si M101 (8, 0) 16 v104 → ((¬ (mz_i M105 (8, 0) 16) = 0 → ((¬ (mz_i M105 (8, 0) 16) = 0 → tl 0 c15 K M105) ∧ ((mz_i M105 (8, 0) 16) = 0 → wp_Ses_obeyPlain 0 c15 M105 (fun v128 M125 => (∀ M129 : MzM, M129 = mz_si M125 (8, 0) 16 v128 → tl 0 c15 K M129))))) ∧ ((mz_i M105 (8, 0) 16) = 0 → ((¬ (mzCmdA.getD c15 0) = (4 : Int32) → ((¬ (mz_i M105 (8, 0) 16) = 0 → tl 0 c15 K M105) ∧ ((mz_i M105 (8, 0) 16) = 0 → wp_Ses_obeyPlain 0 c15 M105 (fun v172 M169 => (∀ M173 : MzM, M173 = mz_si M169 (8, 0) 16 v172 → tl 0 c15 K M173))))) ∧ ((mzCmdA.getD c15 0) = (4 : Int32) → wp_Ses_locate 0 M105 (fun M194 => wp_Ses_obeyPath 0 c15 M194 (fun v200 M197 => (∀ M201 : MzM, M201 = mz_si M197 (8, 0) 16 v200 → tl 0 c15 K M201)))))))))))) := by
    intro M8 fr vd ss hfr hvd hss h8
    have el : lu L1 15 0 ss 13 0 = L1 13 0 := rfl
    have e6 : mz_i (mS m1 0 (spc (L1 13 0)) fr vd) (12, 0) 6 = Int32.ofNat (spc (L1 13 0)) := rfl
    -- a refused line with its code
    have fin : ∀ (v bg : Int32), ¬ v = 213 → ¬ v = 257 → ¬ v = 426 → dg v = dgo v → A1 (mz_si M8 (8, 0) 16 v) (mz_si (mS m1 0 (spc (L1 13 0)) fr vd) (8, 0) 16 v) (lu L1 15 0 ss) → ∀ (M9 : MzM), A1 M9 (fgM (mz_si (mS m1 0 (spc (L1 13 0)) fr vd) (8, 0) 16 v) 0 false false false) (lu L1 15 0 ss) → (∀ (M2 : MzM) (K2 : MzM → Prop), A2 M2 (nA m2 0 a) L2 → (∀ M3 bg', A2 M3 (mz_si (nB m2 0 a) (30, 0) 32 bg') L2 → wp_Mo_answer v M3 (clrK a K2)) → wp_Mo_doLine M2 (clrK a K2)) → tlA 0 K M9 := by
      intro v bg g1 g2 g3 g4 _ M9 h9 href
      refine fin5_0 (m1 := m1) (m2 := m2) (v := v) (a := a) (ee_base_0 hE o0 _ fr vd v a bg ss) ha ha rfl g1 g2 g3 g4 ⟨o0, rfl⟩ ⟨fun _ => rfl, rfl, rfl, rfl, rfl, rfl, rfl, rfl, rfl, rfl⟩ rfl h9 (fun M1' hr => hk M1' (fun M2 K2 h2 hk2 => href M2 K2 h2 (fun M3 bg' h3 => ?_)))
      refine hr M3 K2 ?_ hk2
      sorry
    sorry
  sorry
/-- nothing has been obeyed: what holds before the answer v -/
theorem ee_base_1 {m1 m2 : MzM} {L1 L2 : MzV} (hE : EE m1 L1 m2 L2) (o0 : mz_i m2 (39, 0) 1 = 0) (cl : Nat) (fr vd v a bg : Int32) (ss : List Int32) : EE (fgM (mz_si (mS m1 1 cl fr vd) (8, 1) 16 v) 1 false false false) (lu L1 15 1 ss) (mz_si (nB m2 1 a) (30, 0) 32 bg) L2 := by
  obtain ⟨s1, s2, s3, s4, s5, s6, s7, s8, s9, s10, s11, s12, s13, s14, s15, s16⟩ := hE.2.1
  exact ⟨hE.1, ⟨s1, s2, s3, Or.inl ⟨o0, rfl⟩, rfl, s6, s7, Or.inl ⟨rfl, rfl⟩, ⟨rfl, Or.inl rfl⟩, ⟨rfl, 0, by decide, rfl⟩, s11, s12, s13, s14, s15, s16⟩, hE.2.2⟩
theorem lin_1 {m1 m2 M : MzM} {L1 L2 : MzV} {a : Int32} {K : MzM → Prop} (hob : ∀ c : Nat, c < 21 → obPred 1 c) (hE : EE m1 L1 m2 L2) (o0 : mz_i m2 (39, 0) 1 = 0) (ha : a.toInt = ((1 : Nat) : Int)) (h : A1 M (mz_si (mz_si m1 (12, 1) 4 0) (12, 1) 5 0) L1) (hk : ∀ M1', (∀ (M2 : MzM) (K2 : MzM → Prop), A2 M2 (nA m2 1 a) L2 → (∀ M2', OL m1 m2 1 M1' M2' → K2 M2') → wp_Mo_doLine M2 (clrK a K2)) → K M1') : ∀ v4 : Int32, ¬ v4 = 0 → ((¬ v4 = 0 → wp_Lin_split 1 M (fun M5 => wp_Path_read 1 ((mz_i M5 (12, 1) 6) + (1 : Int32)) (mz_i M5 (12, 1) 2) M5 (fun M8 => wp_Ses_recognise 1 M8 (fun o14 M11 => ((o14 = none → wp_Ses_refusalN 1 M11 (fun v20 M17 => (∀ M21 : MzM, M21 = mz_si M17 (8, 1) 16 v20 → ((¬ (mz_i M21 (8, 1) 16) = 0 → ((¬ (mz_i M21 (8, 1) 16) = 0 → tlN 1 K M21) ∧ ((mz_i M21 (8, 1) 16) = 0 → tlN 1 K M21))) ∧ ((mz_i M21 (8, 1) 16) = 0 → ((¬ (mz_i M21 (8, 1) 16) = 0 → tlN 1 K M21) ∧ ((mz_i M21 (8, 1) 16) = 0 → tlN 1 K M21))))))) ∧ (∀ c15 : Nat, c15 < 21 → o14 = some c15 → wp_Ses_refusal 1 c15 M11 (fun v104 M101 => (∀ M105 : MzM, M105 = mz_si M101 (8, 1) 16 v104 → ((¬ (mz_i M105 (8, 1) 16) = 0 → ((¬ (mz_i M105 (8, 1) 16) = 0 → tl 1 c15 K M105) ∧ ((mz_i M105 (8, 1) 16) = 0 → wp_Ses_obeyPlain 1 c15 M105 (fun v128 M125 => (∀ M129 : MzM, M129 = mz_si M125 (8, 1) 16 v128 → tl 1 c15 K M129))))) ∧ ((mz_i M105 (8, 1) 16) = 0 → ((¬ (mzCmdA.getD c15 0) = (4 : Int32) → ((¬ (mz_i M105 (8, 1) 16) = 0 → tl 1 c15 K M105) ∧ ((mz_i M105 (8, 1) 16) = 0 → wp_Ses_obeyPlain 1 c15 M105 (fun v172 M169 => (∀ M173 : MzM, M173 = mz_si M169 (8, 1) 16 v172 → tl 1 c15 K M173))))) ∧ ((mzCmdA.getD c15 0) = (4 : Int32) → wp_Ses_locate 1 M105 (fun M194 => wp_Ses_obeyPath 1 c15 M194 (fun v200 M197 => (∀ M201 : MzM, M201 = mz_si M197 (8, 1) 16 v200 → tl 1 c15 K M201)))))))))))))) ∧ (v4 = 0 → K M)) := by
  intro v4 hv4
  refine ⟨fun _ => ?_, fun z => absurd z hv4⟩
  obtain ⟨s1, s2, s3, s4, s5, s6, s7, s8, s9, s10, s11, s12, s13, s14, s15, s16⟩ := hE.2.1
  have hcl := spc_le (L1 13 1)
  have sl : spc (L2 43 1) = spc (L1 13 1) := by rw [s3]
  have h30 : (L1 13 1).length ≤ 30 := (h.line 1).2.1
  have hr53 : mz_i m2 (53, 0) 1 = 0 ∨ mz_i m2 (53, 0) 1 = 1 ∨ mz_i m2 (53, 0) 1 = 2 := by
    rcases s16 with t | t | t
    · exact Or.inl t.1
    · exact Or.inr (Or.inl t.1)
    · exact Or.inr (Or.inr t.1)
  have u0 : mz_i m1 (8, 1) 7 = 0 ↔ mz_i m2 (46, 0) 1 = 0 := by
    rcases s7 with ⟨p, q⟩ | ⟨p, q⟩ | ⟨p, q⟩ <;> rw [p, q] <;> decide
  have u1 : mz_i m1 (8, 1) 7 = 1 ↔ mz_i m2 (46, 0) 1 = 2 := by
    rcases s7 with ⟨p, q⟩ | ⟨p, q⟩ | ⟨p, q⟩ <;> rw [p, q] <;> decide
  have r0 : mz_i m1 (16, 1) 1 = 0 ↔ mz_i m2 (53, 0) 1 ≤ 0 := by
    rw [s14]
    rcases hr53 with q | q | q <;> rw [q] <;> decide
  have rest : ∀ (M8 : MzM) (fr vd : Int32) (ss : List Int32), fr = frI (L1 13 1) (spc (L1 13 1) + 1) → vd = (if (pth (L1 13 1) (spc (L1 13 1) + 1)).isSome = true then 1 else 0) → ((pth (L1 13 1) (spc (L1 13 1) + 1)).isSome = true → pth (L1 13 1) (spc (L1 13 1) + 1) = some ss) → A1 M8 (mS m1 1 (spc (L1 13 1)) fr vd) (lu L1 15 1 ss) → wp_Ses_recognise 1 M8 (fun o14 M11 => ((o14 = none → wp_Ses_refusalN 1 M11 (fun v20 M17 => (∀ M21 : MzM, M21 = mz_si M17 (8, 1) 16 v20 → ((¬ (mz_i M21 (8, 1) 16) = 0 → ((¬ (mz_i M21 (8, 1) 16) = 0 → tlN 1 K M21) ∧ ((mz_i M21 (8, 1) 16) = 0 → tlN 1 K M21))) ∧ ((mz_i M21 (8, 1) 16) = 0 → ((¬ (mz_i M21 (8, 1) 16) = 0 → tlN 1 K M21) ∧ ((mz_i M21 (8, 1) 16) = 0 → tlN 1 K M21))))))) ∧ (∀ c15 : Nat, c15 < 21 → o14 = some c15 → wp_Ses_refusal 1 c15 M11 (fun v104 M101 => (∀ M105 : MzM, M105 = mz_si M101 (8, 1) 16 v104 → ((¬ (mz_i M105 (8, 1) 16) = 0 → ((¬ (mz_i M105 (8, 1) 16) = 0 → tl 1 c15 K M105) ∧ ((mz_i M105 (8, 1) 16) = 0 → wp_Ses_obeyPlain 1 c15 M105 (fun v128 M125 => (∀ M129 : MzM, M129 = mz_si M125 (8, 1) 16 v128 → tl 1 c15 K M129))))) ∧ ((mz_i M105 (8, 1) 16) = 0 → ((¬ (mzCmdA.getD c15 0) = (4 : Int32) → ((¬ (mz_i M105 (8, 1) 16) = 0 → tl 1 c15 K M105) ∧ ((mz_i M105 (8, 1) 16) = 0 → wp_Ses_obeyPlain 1 c15 M105 (fun v172 M169 => (∀ M173 : MzM, M173 = mz_si M169 (8, 1) 16 v172 → tl 1 c15 K M173))))) ∧ ((mzCmdA.getD c15 0) = (4 : Int32) → wp_Ses_locate 1 M105 (fun M194 => wp_Ses_obeyPath 1 c15 M194 (fun v200 M197 => (∀ M201 : MzM, M201 = mz_si M197 (8, 1) 16 v200 → tl 1 c15 K M201)))))))))))) := by
    intro M8 fr vd ss hfr hvd hss h8
    have el : lu L1 15 1 ss 13 1 = L1 13 1 := rfl
    have e6 : mz_i (mS m1 1 (spc (L1 13 1)) fr vd) (12, 1) 6 = Int32.ofNat (spc (L1 13 1)) := rfl
    -- a refused line with its code
    have fin : ∀ (v bg : Int32), ¬ v = 213 → ¬ v = 257 → ¬ v = 426 → dg v = dgo v → A1 (mz_si M8 (8, 1) 16 v) (mz_si (mS m1 1 (spc (L1 13 1)) fr vd) (8, 1) 16 v) (lu L1 15 1 ss) → ∀ (M9 : MzM), A1 M9 (fgM (mz_si (mS m1 1 (spc (L1 13 1)) fr vd) (8, 1) 16 v) 1 false false false) (lu L1 15 1 ss) → (∀ (M2 : MzM) (K2 : MzM → Prop), A2 M2 (nA m2 1 a) L2 → (∀ M3 bg', A2 M3 (mz_si (nB m2 1 a) (30, 0) 32 bg') L2 → wp_Mo_answer v M3 (clrK a K2)) → wp_Mo_doLine M2 (clrK a K2)) → tlA 1 K M9 := by
      intro v bg g1 g2 g3 g4 _ M9 h9 href
      refine fin5_1 (m1 := m1) (m2 := m2) (v := v) (a := a) (ee_base_1 hE o0 _ fr vd v a bg ss) ha ha rfl g1 g2 g3 g4 ⟨o0, rfl⟩ ⟨fun _ => rfl, rfl, rfl, rfl, rfl, rfl, rfl, rfl, rfl, rfl⟩ rfl h9 (fun M1' hr => hk M1' (fun M2 K2 h2 hk2 => href M2 K2 h2 (fun M3 bg' h3 => ?_)))
      refine hr M3 K2 ?_ hk2
      sorry
    sorry
  sorry
