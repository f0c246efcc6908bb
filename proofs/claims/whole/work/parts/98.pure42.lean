/-! the end of a line -/
/-- what the class does behind an answer's code c0 -/
def tlA (x : Nat) (K : MzM → Prop) (M : MzM) : Prop := wp_Lin_startLine x M (fun M133 => wp_Ses_answer x (mz_i M133 (8, x) 16) M133 (fun M136 => ((¬ (mz_i M136 (8, x) 16) = (426 : Int32) → wp_Ses_endIfSpent x M136 (fun M139 => K M139)) ∧ ((mz_i M136 (8, x) 16) = (426 : Int32) → wp_Ses_answer x (226 : Int32) M136 (fun M142 => wp_Ses_endIfSpent x M142 (fun M145 => K M145))))))
def tl (x c : Nat) (K : MzM → Prop) (M : MzM) : Prop := wp_Ses_forget x c M (fun M130 => tlA x K M130)
def tlN (x : Nat) (K : MzM → Prop) (M : MzM) : Prop := wp_Ses_forgetN x M (fun M130 => tlA x K M130)
/-- nothing that sends is spent -/
def nsp (m : MzM) (L : MzV) (x : Nat) : Prop := mz_i m (16, x) 1 = 1 → ∃ p : Nat, mz_i m (16, x) 6 = Int32.ofNat p ∧ p < (L 17 x).length
theorem pl_notSpent {x : Nat} {M m : MzM} {L : MzV} {K : MzM → Prop} (h : A1 M m L) (hn : nsp m L x) (hk : K M) : wp_Ses_endIfSpent x M (fun M' => K M') := by
  obtain ⟨e1, e2, e3⟩ := h.2.2.1 17 16 7 75 x rfl
  have f1 := h.1 (16, x) 1 rfl
  refine ⟨fun _ => hk, fun q => ?_⟩
  obtain ⟨p, p1, p2⟩ := hn (f1.symm.trans q)
  have f6 : (mz_i M (16, x) 6).toInt = (p : Int) := by rw [h.1 (16, x) 6 rfl, p1]; exact itn (by omega)
  have f7 : (mz_i M (16, x) 7).toInt = ((L 17 x).length : Int) := by rw [e1]; exact itn (by omega)
  exact ⟨fun _ => ⟨fun _ => hk, fun z => absurd rfl z⟩, fun z => absurd ((ilt f6 f7).mpr (by omega)) z⟩
theorem pl_startLine {x : Nat} {M m : MzM} {L : MzV} {K : MzM → Prop} (h : A1 M m L) (hk : ∀ M', A1 M' (mz_si m (12, x) 3 0) (lu L 13 x []) → K M') : wp_Lin_startLine x M K := by
  rintro _ rfl _ rfl
  have h3 := h.clr (t := 13) (i := x) rfl
  exact hk _ (h3.si (o := (12, x)) (k := 3) (v := 0) rfl)
/-- what is forgotten behind a line: flags say what is kept -/
def fgM (m : MzM) (x : Nat) (kn kr ko : Bool) : MzM :=
  let m1 := if kn = true then m else mz_si m (8, x) 9 0
  let m2 := if kr = true then m1 else mz_si m1 (8, x) 10 (-1)
  if ko = true then m2 else mz_si m2 (8, x) 11 0
theorem pl_forget {x c : Nat} {v : Int32} {M m : MzM} {L : MzV} {K : MzM → Prop} (kn kr ko : Bool) (h : A1 M m L) (hv : mz_i m (8, x) 16 = v) (h1 : kn = true ↔ v = 331) (h2 : kr = true ↔ (v = 350 ∧ c = 19)) (h3 : ko = true ↔ (v = 350 ∧ c = 10)) (hk : ∀ M', A1 M' (fgM m x kn kr ko) L → K M') : wp_Ses_forget x c M K := by
  have t37 : ∀ (N g : MzM), A1 N g L → mz_i g (8, x) 16 = v → (∀ M', A1 M' (if ko = true then g else mz_si g (8, x) 11 0) L → K M') → wp_Ses_forget_37 x c K N := by
    intro N g hN hg hk'
    have e := (hN.1 (8, x) 16 rfl).trans hg
    unfold wp_Ses_forget_37
    rw [e]
    refine ⟨fun z => ?_, fun z => ⟨fun z2 => ?_, fun z2 => ?_⟩⟩
    · rw [if_neg (fun w => z (h3.mp w).1)] at hk'
      rintro _ rfl
      exact hk' _ (hN.si (o := (8, x)) (k := 11) (v := 0) rfl)
    · rw [if_pos (h3.mpr ⟨z, z2⟩)] at hk'
      exact hk' _ hN
    · rw [if_neg (fun w => z2 (h3.mp w).2)] at hk'
      rintro _ rfl
      exact hk' _ (hN.si (o := (8, x)) (k := 11) (v := 0) rfl)
  have t15 : ∀ (N g : MzM), A1 N g L → mz_i g (8, x) 16 = v → (∀ M', A1 M' (if ko = true then (if kr = true then g else mz_si g (8, x) 10 (-1)) else mz_si (if kr = true then g else mz_si g (8, x) 10 (-1)) (8, x) 11 0) L → K M') → wp_Ses_forget_15 x c K N := by
    intro N g hN hg hk'
    have e := (hN.1 (8, x) 16 rfl).trans hg
    have t32 : kr = false → wp_Ses_forget_32 x c K N := by
      intro hkr
      rw [if_neg (show ¬ kr = true from by rw [hkr]; decide)] at hk'
      rintro _ rfl
      exact t37 _ _ (hN.si (o := (8, x)) (k := 10) (v := -1) rfl) ((mz_ne_k (by decide)).trans hg) hk'
    unfold wp_Ses_forget_15
    rw [e]
    refine ⟨fun z => t32 ?_, fun z => ⟨fun z2 => ?_, fun z2 => t32 ?_⟩⟩
    · rw [Bool.eq_false_iff]
      exact fun w => z (h2.mp w).1
    · rw [if_pos (h2.mpr ⟨z, z2⟩)] at hk'
      exact t37 _ _ hN hg hk'
    · rw [Bool.eq_false_iff]
      exact fun w => z2 (h2.mp w).2
  have e := (h.1 (8, x) 16 rfl).trans hv
  unfold wp_Ses_forget
  rw [e]
  unfold fgM at hk
  refine ⟨fun z => ?_, fun z => ?_⟩
  · have hk' := hk
    simp only [if_pos (h1.mpr z)] at hk'
    exact t15 _ _ h hv hk'
  · have hk' := hk
    simp only [if_neg (show ¬ kn = true from fun w => z (h1.mp w))] at hk'
    rintro _ rfl
    exact t15 _ _ (h.si (o := (8, x)) (k := 9) (v := 0) rfl) ((mz_ne_k (by decide)).trans hv) hk'
theorem pl_forgetN {x : Nat} {M m : MzM} {L : MzV} {K : MzM → Prop} (h : A1 M m L) (hv : ¬ mz_i m (8, x) 16 = 331) (hk : ∀ M', A1 M' (fgM m x false false false) L → K M') : wp_Ses_forgetN x M K := by
  have e := h.1 (8, x) 16 rfl
  refine ⟨fun z => absurd (e.symm.trans z) hv, fun _ => ?_⟩
  rintro _ rfl
  have h1 := h.si (o := (8, x)) (k := 9) (v := 0) rfl
  have h2 := h1.si (o := (8, x)) (k := 10) (v := -1) rfl
  have h3 := h2.si (o := (8, x)) (k := 11) (v := 0) rfl
  have go : wp_Ses_forgetN_32 x K (mz_si M (8, x) 9 0) := by
    rintro _ rfl
    refine ⟨fun _ => ?_, fun _ => ?_⟩
    · rintro _ rfl
      exact hk _ h3
    · rintro _ rfl
      exact hk _ h3
  exact ⟨fun _ => go, fun _ => go⟩
/-- the end of a line that is answered in five bytes -/
theorem pl_tail5 {x : Nat} {v : Int32} {M m : MzM} {L : MzV} {K : MzM → Prop} (h : A1 M m L) (hv : mz_i m (8, x) 16 = v) (h213 : ¬ v = 213) (h257 : ¬ v = 257) (h426 : ¬ v = 426) (hn : nsp m L x) (hk : ∀ M' ds, A1 M' (mz_si m (12, x) 3 0) (lu (lu (lu L 13 x []) 11 x ds) 9 x (qap (L 9 x) (dg v ++ [13] ++ [10]))) → K M') : tlA x K M := by
  refine pl_startLine h (fun M1 h1 => ?_)
  have e1 : mz_i M1 (8, x) 16 = v := (h1.1 (8, x) 16 rfl).trans hv
  rw [e1]
  have e9 : lu L 13 x [] 9 x = L 9 x := lu_ne L _ (fun z => absurd z.1 (by decide))
  refine pl_answer5 h1 h213 h257 (fun M2 ds h2 => ?_)
  rw [e9] at h2
  have e2 : mz_i M2 (8, x) 16 = v := (h2.1 (8, x) 16 rfl).trans hv
  refine ⟨fun _ => pl_notSpent h2 (fun z => ?_) (hk M2 ds h2), fun z => absurd (e2.symm.trans z) h426⟩
  obtain ⟨p, p1, p2⟩ := hn z
  refine ⟨p, p1, ?_⟩
  have e17 : lu (lu (lu L 13 x []) 11 x ds) 9 x (qap (L 9 x) (dg v ++ [13] ++ [10])) 17 x = L 17 x := by
    rw [lu_ne _ _ (fun z => absurd z.1 (by decide)), lu_ne _ _ (fun z => absurd z.1 (by decide)), lu_ne _ _ (fun z => absurd z.1 (by decide))]
  rw [e17]
  exact p2
/-- the reference's end of a line -/
def clrK (a : Int32) (K : MzM → Prop) (M14 : MzM) : Prop := (∃ j20 : Nat, a.toInt = (j20 : Int) ∧ j20 < 2 ∧ ∀ M17 : MzM, M17 = mz_si M14 (41, 0) j20 (0 : Int32) → (∃ j26 : Nat, a.toInt = (j26 : Int) ∧ j26 < 2 ∧ ∀ M23 : MzM, M23 = mz_si M17 (42, 0) j26 (0 : Int32) → K M23))
theorem mo_clr {x : Nat} {a : Int32} {M m : MzM} {L : MzV} {K : MzM → Prop} (h : A2 M m L) (ha : a.toInt = (x : Int)) (hx : x < 2) (hk : ∀ M', A2 M' (mz_si m (42, 0) x 0) (lu L 43 x []) → K M') : clrK a K M := by
  refine ⟨x, ha, hx, ?_⟩
  rintro _ rfl
  refine ⟨x, ha, hx, ?_⟩
  rintro _ rfl
  exact hk _ ((h.clr (t := 43) (i := x) rfl).si (t := 42) (k := x) (v := 0) rfl)
/-- what comes out of a line -/
def OL (m1 m2 : MzM) (X : Nat) (M1' M2' : MzM) : Prop := ∃ (m1' : MzM) (L1' : MzV) (m2' : MzM) (L2' : MzV), A1 M1' m1' L1' ∧ A2 M2' m2' L2' ∧ EE m1' L1' m2' L2' ∧ cpF m1 m2 m1' m2' ∧ (mz_i m2' (39, 0) X = 0 ∧ mz_i m2' (40, 0) X = 0) ∧ (mz_i m1' (8, X) 16 = mz_i m2' (30, 0) 30 ∧ ¬ mz_i m1' (8, X) 16 ≤ 0) ∧ (mz_i m1' (8, X) 16 = 213 → mz_i m1' (8, X) 14 = mz_i m2' (30, 0) 31 ∧ ∃ k : Nat, k < 25 ∧ mz_i m2' (30, 0) 31 = Int32.ofNat k)
theorem posv {a v : Int32} (h : a = v) (hv : ¬ v ≤ 0) : ¬ a ≤ 0 := by
  rw [h]
  exact hv
theorem fa_0 {m : MzM} {v : Int32} (h : mz_i m (30, 0) 30 = 0) : fa m v = v := if_pos h
/-- from what stands before the answer to what stands behind the line -/
theorem ee_line_0 {mo no : MzM} {LO L2O : MzV} (hE : EE mo LO no L2O) (ds q : List Int32) (w : Int32) : EE (mz_si mo (12, 0) 3 0) (lu (lu (lu LO 13 0 []) 11 0 ds) 9 0 q) (mz_si (mz_si no (30, 0) 30 w) (42, 0) 0 0) (lu (lu L2O 45 0 q) 43 0 []) := by
  obtain ⟨s1, s2, s3, s4, s5, s6, s7, s8, s9, s10, s11, s12, s13, s14, s15, s16⟩ := hE.1
  exact ⟨⟨s1, rfl, rfl, s4, s5, rfl, s7, s8, s9, s10, s11, s12, s13, s14, s15, s16⟩, hE.2.1, hE.2.2⟩
theorem nsp_0 {mo no : MzM} {LO L2O : MzV} (hE : EE mo LO no L2O) : nsp mo LO 0 := by
  obtain ⟨s1, s2, s3, s4, s5, s6, s7, s8, s9, s10, s11, s12, s13, s14, s15, s16⟩ := hE.1
  intro z
  have z1 := s14.symm.trans z
  rcases s16 with ⟨t, _⟩ | ⟨_, _, t3, ⟨p, p1, p2, p3⟩, _⟩ | ⟨t, _⟩
  · exact absurd (t.symm.trans z1) (by decide)
  · exact ⟨p, p3, by rw [t3]; exact p1⟩
  · exact absurd (t.symm.trans z1) (by decide)
/-- a line that is answered v, in five bytes: both to their ends -/
theorem fin5_0 {m1 m2 mo no M1 : MzM} {LO L2O : MzV} {v a : Int32} {K : MzM → Prop} (hE : EE mo LO no L2O) (ha : a.toInt = ((0 : Nat) : Int)) (hs : (mz_i no (30, 0) 29).toInt = ((0 : Nat) : Int)) (hf : mz_i no (30, 0) 30 = 0) (h213 : ¬ v = 213) (h257 : ¬ v = 257) (h426 : (¬ v = 426 ∧ ¬ v ≤ 0)) (hdg : dg v = dgo v) (ho : mz_i no (39, 0) 0 = 0 ∧ mz_i no (40, 0) 0 = 0) (hcp : cpF m1 m2 mo no) (hv : mz_i mo (8, 0) 16 = v) (h1 : A1 M1 mo LO) (hk : ∀ M1', (∀ (M2 : MzM) (K2 : MzM → Prop), A2 M2 no L2O → (∀ M2', OL m1 m2 0 M1' M2' → K2 M2') → wp_Mo_answer v M2 (clrK a K2)) → K M1') : tlA 0 K M1 := by
  refine pl_tail5 h1 hv h213 h257 h426.1 (nsp_0 hE) (fun M1' ds h1' => hk M1' (fun M2 K2 h2 hk2 => ?_))
  refine mo_answer h2 hs (by decide) (fun M3 h3 => mo_clr h3 ha (by decide) (fun M4 h4 => hk2 M4 ?_))
  have hq : L2O 45 0 = LO 9 0 := (hE.1).2.1.symm
  rw [hq, ← hdg] at h4
  refine ⟨_, _, _, _, h1', h4, ee_line_0 hE ds _ _, hcp, ho, ⟨?_, posv hv h426.2⟩, fun z => absurd (hv.symm.trans z) h213⟩
  show mz_i mo (8, 0) 16 = fa no v
  rw [hv, fa_0 hf]
/-- from what stands before the answer to what stands behind the line -/
theorem ee_line_1 {mo no : MzM} {LO L2O : MzV} (hE : EE mo LO no L2O) (ds q : List Int32) (w : Int32) : EE (mz_si mo (12, 1) 3 0) (lu (lu (lu LO 13 1 []) 11 1 ds) 9 1 q) (mz_si (mz_si no (30, 0) 30 w) (42, 0) 1 0) (lu (lu L2O 45 1 q) 43 1 []) := by
  obtain ⟨s1, s2, s3, s4, s5, s6, s7, s8, s9, s10, s11, s12, s13, s14, s15, s16⟩ := hE.2.1
  exact ⟨hE.1, ⟨s1, rfl, rfl, s4, s5, rfl, s7, s8, s9, s10, s11, s12, s13, s14, s15, s16⟩, hE.2.2⟩
theorem nsp_1 {mo no : MzM} {LO L2O : MzV} (hE : EE mo LO no L2O) : nsp mo LO 1 := by
  obtain ⟨s1, s2, s3, s4, s5, s6, s7, s8, s9, s10, s11, s12, s13, s14, s15, s16⟩ := hE.2.1
  intro z
  have z1 := s14.symm.trans z
  rcases s16 with ⟨t, _⟩ | ⟨_, _, t3, ⟨p, p1, p2, p3⟩, _⟩ | ⟨t, _⟩
  · exact absurd (t.symm.trans z1) (by decide)
  · exact ⟨p, p3, by rw [t3]; exact p1⟩
  · exact absurd (t.symm.trans z1) (by decide)
/-- a line that is answered v, in five bytes: both to their ends -/
theorem fin5_1 {m1 m2 mo no M1 : MzM} {LO L2O : MzV} {v a : Int32} {K : MzM → Prop} (hE : EE mo LO no L2O) (ha : a.toInt = ((1 : Nat) : Int)) (hs : (mz_i no (30, 0) 29).toInt = ((1 : Nat) : Int)) (hf : mz_i no (30, 0) 30 = 0) (h213 : ¬ v = 213) (h257 : ¬ v = 257) (h426 : (¬ v = 426 ∧ ¬ v ≤ 0)) (hdg : dg v = dgo v) (ho : mz_i no (39, 0) 1 = 0 ∧ mz_i no (40, 0) 1 = 0) (hcp : cpF m1 m2 mo no) (hv : mz_i mo (8, 1) 16 = v) (h1 : A1 M1 mo LO) (hk : ∀ M1', (∀ (M2 : MzM) (K2 : MzM → Prop), A2 M2 no L2O → (∀ M2', OL m1 m2 1 M1' M2' → K2 M2') → wp_Mo_answer v M2 (clrK a K2)) → K M1') : tlA 1 K M1 := by
  refine pl_tail5 h1 hv h213 h257 h426.1 (nsp_1 hE) (fun M1' ds h1' => hk M1' (fun M2 K2 h2 hk2 => ?_))
  refine mo_answer h2 hs (by decide) (fun M3 h3 => mo_clr h3 ha (by decide) (fun M4 h4 => hk2 M4 ?_))
  have hq : L2O 45 1 = LO 9 1 := (hE.2.1).2.1.symm
  rw [hq, ← hdg] at h4
  refine ⟨_, _, _, _, h1', h4, ee_line_1 hE ds _ _, hcp, ho, ⟨?_, posv hv h426.2⟩, fun z => absurd (hv.symm.trans z) h213⟩
  show mz_i mo (8, 1) 16 = fa no v
  rw [hv, fa_0 hf]
