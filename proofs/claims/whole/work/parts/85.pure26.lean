/-! a line's command -/
def ix (l : List Int32) (j : Nat) : Int32 := l.getD j 0
theorem ix_of {l : List Int32} {j : Nat} {v : Int32} (h : l[j]? = some v) : ix l j = v := by
  unfold ix
  rw [List.getD_eq_getElem?_getD, h]
  rfl
def spc : List Int32 → Nat
  | [] => 0
  | c :: t => if c = 32 then 0 else spc t + 1
theorem spc_le : ∀ l : List Int32, spc l ≤ l.length
  | [] => Nat.le_refl _
  | c :: t => by
    have h := spc_le t
    unfold spc
    split
    · exact Nat.zero_le _
    · simp only [List.length_cons]
      omega
theorem spc_uniq : ∀ (l : List Int32) (i : Nat), i ≤ l.length → (∀ j : Nat, j < i → ¬ ix l j = 32) → (i < l.length → ix l i = 32) → spc l = i
  | [], i, h1, _, _ => by
    have : i = 0 := by simpa using h1
    rw [this]
    rfl
  | c :: t, 0, _, _, h3 => by
    have hc : c = 32 := h3 (by simp)
    unfold spc
    rw [if_pos hc]
  | c :: t, i + 1, h1, h2, h3 => by
    have hc : ¬ c = 32 := h2 0 (by omega)
    unfold spc
    rw [if_neg hc, spc_uniq t i (by simp only [List.length_cons] at h1; omega) (fun j hj => h2 (j + 1) (by omega)) (fun hi => h3 (by simp only [List.length_cons]; omega))]
/-- the class's line, cell by cell -/
theorem A1.line {M m : MzM} {L : MzV} (h : A1 M m L) (x : Nat) : (mz_i M (12, x) 2).toInt = ((L 13 x).length : Int) ∧ (L 13 x).length ≤ 30 ∧ ∀ j : Nat, j < (L 13 x).length → mz_i M (13, x) j = ix (L 13 x) j := by
  obtain ⟨e1, e2, e3⟩ := h.2.2.1 13 12 2 30 x rfl
  exact ⟨by rw [e1]; exact itn (by omega), e2, fun j hj => (ix_of (e3 j hj)).symm⟩
theorem A2.line {M m : MzM} {L : MzV} (h : A2 M m L) {x : Nat} (hx : x < 2) : (mz_i M (41, 0) x).toInt = ((L 43 x).length : Int) ∧ (L 43 x).length ≤ 30 ∧ ∀ j : Nat, j < (L 43 x).length → mz_i M (43, 0) (30 * x + j) = ix (L 43 x) j := by
  obtain ⟨e1, e2, e3⟩ := h.2 43 41 30 2 x rfl hx
  exact ⟨by rw [e1]; exact itn (by omega), e2, fun j hj => (ix_of (e3 j hj)).symm⟩
theorem pl_split_loop {x : Nat} {m : MzM} {L : MzV} {K : MzM → Prop} (hk : ∀ M', A1 M' (mz_si m (12, x) 6 (Int32.ofNat (spc (L 13 x)))) L → K M') : ∀ (r i : Nat) (M : MzM), i + r = (L 13 x).length → (∀ j : Nat, j < i → ¬ ix (L 13 x) j = 32) → A1 M (mz_si m (12, x) 6 (Int32.ofNat (L 13 x).length)) L → wp_Lin_split_10 x K (r + 1) (Int32.ofNat i) M := by
  intro r
  induction r with
  | zero =>
    intro i M hi hn h
    obtain ⟨e1, e2, e3⟩ := h.line x
    have ei : (Int32.ofNat i).toInt = (i : Int) := itn (by omega)
    refine ⟨fun _ => hk M ?_, fun h9 => absurd ((ile e1 ei).mpr (by omega)) h9⟩
    rw [spc_uniq (L 13 x) (L 13 x).length (Nat.le_refl _) (fun j hj => hn j (by omega)) (fun q => absurd q (by omega))]
    exact h
  | succ r ih =>
    intro i M hi hn h
    obtain ⟨e1, e2, e3⟩ := h.line x
    have ei : (Int32.ofNat i).toInt = (i : Int) := itn (by omega)
    refine ⟨fun h9 => absurd ((ile e1 ei).mp h9) (by omega), fun _ => ⟨i, ei, by omega, fun h0 => ?_, fun h0 => ?_⟩⟩
    · have es : Int32.ofNat i + 1 = Int32.ofNat (i + 1) := i32_succ rfl
      rw [es]
      rw [e3 i (by omega)] at h0
      refine ih (i + 1) M (by omega) (fun j hj => ?_) h
      by_cases hji : j = i
      · rw [hji]
        exact h0
      · exact hn j (by omega)
    · rw [e3 i (by omega)] at h0
      rintro _ rfl
      refine hk _ ?_
      rw [spc_uniq (L 13 x) i (by omega) hn (fun _ => h0)]
      exact (h.si (o := (12, x)) (k := 6) (v := Int32.ofNat i) rfl).over
theorem pl_split {x : Nat} {M m : MzM} {L : MzV} {K : MzM → Prop} (h : A1 M m L) (hk : ∀ M', A1 M' (mz_si m (12, x) 6 (Int32.ofNat (spc (L 13 x)))) L → K M') : wp_Lin_split x M K := by
  obtain ⟨e1, e2, e3⟩ := h.2.2.1 13 12 2 30 x rfl
  rintro _ rfl
  rw [e1]
  exact ⟨(L 13 x).length + 1, pl_split_loop hk (L 13 x).length 0 _ (by omega) (fun j hj => absurd hj (by omega)) (h.si (o := (12, x)) (k := 6) (v := Int32.ofNat (L 13 x).length) rfl)⟩
def upc (c : Int32) : Int32 := if c < 97 then c else if 122 < c then c else c - 97 + 65
/-- the first cl bytes are the word w, capitals or not -/
def mtc (l w : List Int32) (cl : Nat) : Prop := w.length = cl ∧ ∀ j : Nat, j < cl → upc (ix l j) = w.getD j 0
theorem pl_commandIs {x w cl : Nat} {M m : MzM} {L : MzV} {K : Int32 → MzM → Prop} (h : A1 M m L) (hc : mz_i m (12, x) 6 = Int32.ofNat cl) (hcl : cl ≤ (L 13 x).length) (hw : (mzStrB.getD w []).length ≤ 60) (h1 : mtc (L 13 x) (mzStrB.getD w []) cl → K 1 M) (h0 : ¬ mtc (L 13 x) (mzStrB.getD w []) cl → K 0 M) : wp_Lin_commandIs x w M K := by
  obtain ⟨e1, e2, e3⟩ := h.line x
  have e6 : mz_i M (12, x) 6 = Int32.ofNat cl := (h.1 _ _ rfl).trans hc
  have c6 : (mz_i M (12, x) 6).toInt = (cl : Int) := by rw [e6]; exact itn (by omega)
  have loop : ∀ (r i : Nat), i + r = cl → (mzStrB.getD w []).length = cl → (∀ j : Nat, j < i → upc (ix (L 13 x) j) = (mzStrB.getD w []).getD j 0) → wp_Lin_commandIs_15 x w K (r + 1) (Int32.ofNat i) M := by
    intro r
    induction r with
    | zero =>
      intro i hi hl hj
      have ei : (Int32.ofNat i).toInt = (i : Int) := itn (by omega)
      exact ⟨fun _ => h1 ⟨hl, fun j q => hj j (by omega)⟩, fun h9 => absurd ((ile c6 ei).mpr (by omega)) h9⟩
    | succ r ih =>
      intro i hi hl hj
      have ei : (Int32.ofNat i).toInt = (i : Int) := itn (by omega)
      have es : Int32.ofNat i + 1 = Int32.ofNat (i + 1) := i32_succ rfl
      have t53 : ∀ c : Int32, c = upc (ix (L 13 x) i) → wp_Lin_commandIs_53 x w (wp_Lin_commandIs_15 x w K (r + 1)) K (Int32.ofNat i) c M := by
        intro c hcc
        refine ⟨i, ei, by omega, fun q => ?_, fun q => h0 (fun z => q ?_)⟩
        · rw [es]
          refine ih (i + 1) (by omega) hl (fun j hj' => ?_)
          by_cases hji : j = i
          · rw [hji, ← hcc]
            exact q
          · exact hj j (by omega)
        · rw [hcc]
          exact z.2 i (by omega)
      refine ⟨fun h9 => absurd ((ile c6 ei).mp h9) (by omega), fun _ => ⟨i, ei, by omega, fun q => t53 _ ?_, fun q => ⟨fun q2 => t53 _ ?_, fun q2 => t53 _ ?_⟩⟩⟩
      · rw [e3 i (by omega)] at q ⊢
        unfold upc
        rw [if_pos q]
      · rw [e3 i (by omega)] at q q2 ⊢
        unfold upc
        rw [if_neg q, if_pos q2]
      · rw [e3 i (by omega)] at q q2 ⊢
        unfold upc
        rw [if_neg q, if_neg q2]
  refine ⟨fun q => ⟨cl + 1, loop cl 0 (by omega) ?_ (fun j hj => absurd hj (by omega))⟩, fun q => h0 (fun z => q ?_)⟩
  · rw [e6] at q
    exact ofN_inj (by omega) (by omega) q
  · rw [e6, z.1]
def wdL (i : Nat) : List Int32 := mzStrB.getD (mzCmdW.getD i 0) []
theorem wdL_len : ∀ i : Nat, i < 21 → (wdL i).length ≤ 60 := by decide
theorem pl_recognise {x cl : Nat} {M m : MzM} {L : MzV} {K : Option Nat → MzM → Prop} (h : A1 M m L) (hc : mz_i m (12, x) 6 = Int32.ofNat cl) (hcl : cl ≤ (L 13 x).length) (h1 : ∀ i : Nat, i < 21 → mtc (L 13 x) (wdL i) cl → K (some i) M) (h0 : (∀ i : Nat, i < 21 → ¬ mtc (L 13 x) (wdL i) cl) → K none M) : wp_Ses_recognise x M K := by
  have loop : ∀ (r i : Nat), i + r = 21 → (∀ j : Nat, j < i → ¬ mtc (L 13 x) (wdL j) cl) → wp_Ses_recognise_2 x K (r + 1) (Int32.ofNat i) M := by
    intro r
    induction r with
    | zero =>
      intro i hi hj
      have hi' : i = 21 := by omega
      subst hi'
      exact ⟨fun _ => h0 hj, fun h9 => absurd (by decide) h9⟩
    | succ r ih =>
      intro i hi hj
      have ei : (Int32.ofNat i).toInt = (i : Int) := itn (by omega)
      have es : Int32.ofNat i + 1 = Int32.ofNat (i + 1) := i32_succ rfl
      refine ⟨fun h9 => absurd ((ile (m := 21) rfl ei).mp h9) (by omega), fun _ => ⟨i, ei, by omega, pl_commandIs h hc hcl (wdL_len i (by omega)) (fun q => ⟨fun h9 => absurd h9 (by decide), fun _ => ⟨i, ei, by omega, h1 i (by omega) q⟩⟩) (fun q => ⟨fun _ => ?_, fun h9 => absurd rfl h9⟩)⟩⟩
      rw [es]
      refine ih (i + 1) (by omega) (fun j hj' => ?_)
      by_cases hji : j = i
      · rw [hji]
        exact q
      · exact hj j (by omega)
  exact ⟨22, loop 21 0 (by omega) (fun j hj => absurd hj (by omega))⟩
