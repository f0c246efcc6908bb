theorem pl_refusal {x c cl : Nat} {M m : MzM} {L : MzV} {K : Int32 → MzM → Prop} (h : A1 M m L) (hc : mz_i m (12, x) 6 = Int32.ofNat cl) (hcl : cl ≤ (L 13 x).length) (hv : mz_i m (14, x) 3 = if (pth (L 13 x) (cl + 1)).isSome = true then 1 else 0)
  (k500 : ¬ mz_i m (12, x) 3 = 0 → K 500 M)
  (k501 : mz_i m (12, x) 3 = 0 → ¬ fitK (L 13 x) (cl + 1) (mzCmdA.getD c 0) → K 501 M)
  (k530 : mz_i m (12, x) 3 = 0 → fitK (L 13 x) (cl + 1) (mzCmdA.getD c 0) → ¬ mzCmdWho.getD c 0 = 0 → mz_i m (8, x) 7 = 0 → K 530 M)
  (k503 : mz_i m (12, x) 3 = 0 → fitK (L 13 x) (cl + 1) (mzCmdA.getD c 0) → (mzCmdWho.getD c 0 = 0 ∨ ¬ mz_i m (8, x) 7 = 0) → mzCmdD.getD c 0 = 0 → ¬ mz_i m (16, x) 1 = 0 → K 503 M)
  (k550 : mz_i m (12, x) 3 = 0 → fitK (L 13 x) (cl + 1) (mzCmdA.getD c 0) → (mzCmdWho.getD c 0 = 0 ∨ ¬ mz_i m (8, x) 7 = 0) → (¬ mzCmdD.getD c 0 = 0 ∨ mz_i m (16, x) 1 = 0) → mzCmdWho.getD c 0 = 2 → ¬ mz_i m (8, x) 7 = 1 → K 550 M)
  (k0 : mz_i m (12, x) 3 = 0 → fitK (L 13 x) (cl + 1) (mzCmdA.getD c 0) → (mzCmdWho.getD c 0 = 0 ∨ ¬ mz_i m (8, x) 7 = 0) → (¬ mzCmdD.getD c 0 = 0 ∨ mz_i m (16, x) 1 = 0) → (¬ mzCmdWho.getD c 0 = 2 ∨ mz_i m (8, x) 7 = 1) → K 0 M) : wp_Ses_refusal x c M K := by
  have f3 := h.1 (12, x) 3 rfl
  have f7 := h.1 (8, x) 7 rfl
  have f1 := h.1 (16, x) 1 rfl
  unfold wp_Ses_refusal
  rw [f3]
  refine ⟨k500, fun t => pl_fits h hc hcl hv (fun hf => ⟨fun _ => ?_, fun h9 => absurd h9 (by decide)⟩) (fun hf => ⟨fun h9 => absurd rfl h9, fun _ => k501 t hf⟩)⟩
  have t72 : (mzCmdWho.getD c 0 = 0 ∨ ¬ mz_i m (8, x) 7 = 0) → (¬ mzCmdD.getD c 0 = 0 ∨ mz_i m (16, x) 1 = 0) → wp_Ses_refusal_72 x c K M := by
    intro hw hd
    unfold wp_Ses_refusal_72
    rw [f7]
    exact ⟨fun z => k0 t hf hw hd (Or.inl z), fun z => ⟨fun z2 => k0 t hf hw hd (Or.inr z2), fun z2 => k550 t hf hw hd z z2⟩⟩
  have t51 : (mzCmdWho.getD c 0 = 0 ∨ ¬ mz_i m (8, x) 7 = 0) → wp_Ses_refusal_51 x c K M := by
    intro hw
    unfold wp_Ses_refusal_51
    rw [f1]
    exact ⟨fun z => t72 hw (Or.inl z), fun z => ⟨fun z2 => t72 hw (Or.inr z2), fun z2 => k503 t hf hw z z2⟩⟩
  rw [f7]
  exact ⟨fun z => t51 (Or.inl z), fun z => ⟨fun z2 => t51 (Or.inr z2), fun z2 => k530 t hf z z2⟩⟩
theorem tab_facts : ∀ c : Nat, c < 21 → (mzCmdWho.getD c 0 = 0 ↔ c < 4) ∧ (mzCmdWho.getD c 0 = 2 ↔ (c = 12 ∨ c = 13 ∨ 16 ≤ c)) ∧ (¬ mzCmdD.getD c 0 = 0 ↔ (c = 2 ∨ c = 3 ∨ c = 15)) := by decide
/-- the reference's questions before a command is obeyed -/
theorem mo_111 {x b c : Nat} {y1 y2 y3 e wr : Int32} {M m : MzM} {L : MzV} {K : MzM → Prop} (h : A2 M m L) (hs : (mz_i m (30, 0) 29).toInt = (x : Int)) (hx : x < 2) (hb : mz_i m (30, 0) 32 = Int32.ofNat b) (hb2 : b ≤ 31) (hc : c < 21) (he : ¬ e = 0 ↔ c < 4) (hw : ¬ wr = 0 ↔ (c = 12 ∨ c = 13 ∨ 16 ≤ c))
  (k500 : ¬ mz_i m (42, 0) x = 0 → wp_Mo_answer 500 M (fun M' => K M'))
  (k501 : mz_i m (42, 0) x = 0 → ¬ fitK (L 43 x) b (mzCmdA.getD c 0) → wp_Mo_answer 501 M (fun M' => K M'))
  (k530 : mz_i m (42, 0) x = 0 → fitK (L 43 x) b (mzCmdA.getD c 0) → ¬ c < 4 → mz_i m (46, 0) x = 0 → wp_Mo_answer 530 M (fun M' => K M'))
  (k503 : mz_i m (42, 0) x = 0 → fitK (L 43 x) b (mzCmdA.getD c 0) → (c < 4 ∨ ¬ mz_i m (46, 0) x = 0) → ¬ (c = 2 ∨ c = 3 ∨ c = 15) → ¬ mz_i m (53, 0) x ≤ 0 → wp_Mo_answer 503 M (fun M' => K M'))
  (k550 : mz_i m (42, 0) x = 0 → fitK (L 43 x) b (mzCmdA.getD c 0) → (c < 4 ∨ ¬ mz_i m (46, 0) x = 0) → ((c = 2 ∨ c = 3 ∨ c = 15) ∨ mz_i m (53, 0) x ≤ 0) → (c = 12 ∨ c = 13 ∨ 16 ≤ c) → ¬ mz_i m (46, 0) x = 2 → wp_Mo_answer 550 M (fun M' => K M'))
  (k0 : mz_i m (42, 0) x = 0 → fitK (L 43 x) b (mzCmdA.getD c 0) → (c < 4 ∨ ¬ mz_i m (46, 0) x = 0) → ((c = 2 ∨ c = 3 ∨ c = 15) ∨ mz_i m (53, 0) x ≤ 0) → (¬ (c = 12 ∨ c = 13 ∨ 16 ≤ c) ∨ mz_i m (46, 0) x = 2) → wp_Mo_doLine_255 K y1 y2 y3 (Int32.ofNat (c + 1)) e M) : wp_Mo_doLine_111 K y1 y2 y3 (Int32.ofNat (c + 1)) e wr M := by
  have s0 : (mz_i M (30, 0) 29).toInt = (x : Int) := by rw [h.1 30 29 rfl]; exact hs
  have f42 := h.1 42 x rfl
  have f46 := h.1 46 x rfl
  have f53 := h.1 53 x rfl
  have vne : ∀ k : Nat, k < 100 → (Int32.ofNat (c + 1) = Int32.ofNat k ↔ c + 1 = k) := fun k hk => ⟨fun z => ofN_inj (by omega) (by omega) z, fun z => by rw [z]⟩
  have t227 : mz_i m (42, 0) x = 0 → fitK (L 43 x) b (mzCmdA.getD c 0) → (c < 4 ∨ ¬ mz_i m (46, 0) x = 0) → ((c = 2 ∨ c = 3 ∨ c = 15) ∨ mz_i m (53, 0) x ≤ 0) → wp_Mo_doLine_227 K y1 y2 y3 (Int32.ofNat (c + 1)) e wr M := by
    intro q1 q2 q3 q4
    refine ⟨fun z => k0 q1 q2 q3 q4 (Or.inl (fun w => hw.mpr w z)), fun z => ⟨x, s0, hx, ?_⟩⟩
    rw [f46]
    exact ⟨fun w => k0 q1 q2 q3 q4 (Or.inr w), fun w => k550 q1 q2 q3 q4 (hw.mp z) w⟩
  have t186 : mz_i m (42, 0) x = 0 → fitK (L 43 x) b (mzCmdA.getD c 0) → (c < 4 ∨ ¬ mz_i m (46, 0) x = 0) → wp_Mo_doLine_186 K y1 y2 y3 (Int32.ofNat (c + 1)) e wr M := by
    intro q1 q2 q3
    refine ⟨x, s0, hx, ?_⟩
    rw [f53]
    refine ⟨fun z => t227 q1 q2 q3 (Or.inr z), fun z => ⟨fun w => t227 q1 q2 q3 (Or.inl ?_), fun w => ⟨fun w2 => t227 q1 q2 q3 (Or.inl ?_), fun w2 => ⟨fun w3 => t227 q1 q2 q3 (Or.inl ?_), fun w3 => k503 q1 q2 q3 ?_ z⟩⟩⟩⟩
    · have := (vne 3 (by decide)).mp w
      omega
    · have := (vne 4 (by decide)).mp w2
      omega
    · have := (vne 16 (by decide)).mp w3
      omega
    · rintro (u | u | u)
      · exact w ((vne 3 (by decide)).mpr (by omega))
      · exact w2 ((vne 4 (by decide)).mpr (by omega))
      · exact w3 ((vne 16 (by decide)).mpr (by omega))
  refine ⟨x, s0, hx, ?_⟩
  rw [f42]
  refine ⟨k500, fun t => ⟨fun _ => mo_good h hs hx hb hb2 hc (fun hf => ⟨fun _ => ⟨x, s0, hx, ?_⟩, fun h9 => absurd h9 (by decide)⟩) (fun hf => ⟨fun h9 => absurd rfl h9, fun _ => k501 t hf⟩), fun z => ?_⟩⟩
  · rw [f46]
    refine ⟨fun z => t186 t hf (Or.inr z), fun z => ⟨fun w => t186 t hf (Or.inl (he.mp w)), fun w => k530 t hf (fun u => he.mpr u w) z⟩⟩
  · have := (vne 0 (by decide)).mp z
    omega
/-- the reference's places when a line begins to be read -/
def nA (m2 : MzM) (x : Nat) (a : Int32) : MzM := mz_si (mz_si (mz_si m2 (40, 0) x 0) (30, 0) 29 a) (30, 0) 30 0
def nB (m2 : MzM) (x : Nat) (a : Int32) : MzM := mz_si (mz_si (mz_si (nA m2 x a) (47, 0) x 0) (48, 0) x (-1)) (49, 0) x 0
theorem mo_take1_line {x : Nat} {a : Int32} {M m : MzM} {L : MzV} {K : MzM → Prop} (h : A2 M m L) (ha : a.toInt = (x : Int)) (hx : x < 2) (ho : mz_i m (39, 0) x = 0) (ht : ¬ mz_i m (40, 0) x = 0) (hk : ∀ M', A2 M' (nA m x a) L → wp_Mo_doLine M' (clrK a K)) : wp_Mo_take1 a 10 M K := by
  have e39 : mz_i M (39, 0) x = 0 := (h.1 39 x rfl).trans ho
  refine ⟨x, ha, hx, fun _ => ⟨x, ha, hx, fun _ => ⟨fun _ => ?_, fun h9 => absurd h9 (by decide)⟩, fun h9 => absurd (e39.symm.trans h9) (by decide)⟩, fun h9 => absurd (by rw [e39]; decide) h9⟩
  refine ⟨x, ha, hx, fun _ => ⟨Or.inl rfl, x, ha, hx, ?_⟩, fun h9 => absurd h9 (by decide)⟩
  rintro _ rfl
  have h3 := h.si (t := 40) (k := x) (v := 0) rfl
  rw [h.1 40 x rfl]
  refine ⟨fun z => absurd z ht, fun _ => ⟨fun z => absurd rfl z, fun _ => ?_⟩⟩
  rintro _ rfl _ rfl
  have h4 := h3.si (t := 30) (k := 29) (v := a) rfl
  have h5 := h4.si (t := 30) (k := 30) (v := 0) rfl
  exact hk _ h5
/-- the reference's line as far as its command -/
theorem mo_doLine {x : Nat} {a : Int32} {M m : MzM} {L : MzV} {K : MzM → Prop} (h : A2 M (nA m x a) L) (ha : a.toInt = (x : Int)) (hx : x < 2) (hw : wdE m) (hnone : (∀ i : Nat, i < 21 → ¬ mtc (L 43 x) (wdL i) (spc (L 43 x))) → ∀ M' bg, A2 M' (mz_si (nB m x a) (30, 0) 32 bg) L → wp_Mo_doLine_83 K (mz_i m (47, 0) x) (mz_i m (48, 0) x) (mz_i m (49, 0) x) 0 0 M') (hsome : ∀ c : Nat, c < 21 → mtc (L 43 x) (wdL c) (spc (L 43 x)) → ∀ M', A2 M' (mz_si (nB m x a) (30, 0) 32 (Int32.ofNat (spc (L 43 x) + 1))) L → wp_Mo_doLine_83 K (mz_i m (47, 0) x) (mz_i m (48, 0) x) (mz_i m (49, 0) x) (Int32.ofNat (c + 1)) (if c < 4 then 1 else 0) M') : wp_Mo_doLine M K := by
  have s0 : (mz_i M (30, 0) 29).toInt = (x : Int) := by
    rw [h.1 30 29 rfl]
    exact ha
  have e47 : mz_i M (47, 0) x = mz_i m (47, 0) x := h.1 47 x rfl
  have e48 : mz_i M (48, 0) x = mz_i m (48, 0) x := h.1 48 x rfl
  have e49 : mz_i M (49, 0) x = mz_i m (49, 0) x := h.1 49 x rfl
  refine ⟨x, s0, hx, x, s0, hx, x, s0, hx, x, s0, hx, ?_⟩
  rw [e47, e48, e49]
  rintro _ rfl
  have h1 := h.si (t := 47) (k := x) (v := 0) rfl
  refine ⟨x, s0, hx, ?_⟩
  rintro _ rfl
  have h2 := h1.si (t := 48) (k := x) (v := -1) rfl
  refine ⟨x, s0, hx, ?_⟩
  rintro _ rfl
  have h3 : A2 (mz_si (mz_si (mz_si M (47, 0) x 0) (48, 0) x (-1)) (49, 0) x 0) (nB m x a) L := h2.si (t := 49) (k := x) (v := 0) rfl
  have sB : (mz_i (nB m x a) (30, 0) 29).toInt = (x : Int) := ha
  have none0 : (∀ i : Nat, i < 21 → ¬ mtc (L 43 x) (wdL i) (spc (L 43 x))) → ∀ (M' : MzM) (bg : Int32), A2 M' (mz_si (nB m x a) (30, 0) 32 bg) L → (((0 : Int32) < (1 : Int32) → wp_Mo_doLine_82 K (mz_i m (47, 0) x) (mz_i m (48, 0) x) (mz_i m (49, 0) x) 0 M') ∧ (¬ (0 : Int32) < (1 : Int32) → (((4 : Int32) < 0 → wp_Mo_doLine_82 K (mz_i m (47, 0) x) (mz_i m (48, 0) x) (mz_i m (49, 0) x) 0 M') ∧ (¬ (4 : Int32) < 0 → wp_Mo_doLine_83 K (mz_i m (47, 0) x) (mz_i m (48, 0) x) (mz_i m (49, 0) x) 0 (1 : Int32) M')))) := by
    intro hn M' bg h'
    exact ⟨fun _ => hnone hn M' bg h', fun z => absurd (by decide) z⟩
  refine mo_command h3 hw sB hx (fun g1 g2 M' h' => ?_) (fun g M' h' => ?_)
  · by_cases hm : ∃ c : Nat, c < 21 ∧ mtc (L 43 x) (wdL c) (spc (L 43 x))
    · obtain ⟨c, hc, hmc⟩ := hm
      rw [(mtc_good hc hmc).2.2]
      have g := hsome c hc hmc M' h'
      have tc : (Int32.ofNat (c + 1)).toInt = ((c + 1 : Nat) : Int) := itn (by omega)
      refine ⟨fun z => absurd ((ilt (n := 1) tc rfl).mp z) (by omega), fun _ => ⟨fun z => ?_, fun z => ?_⟩⟩
      · have z1 := (ilt (m := 4) rfl tc).mp z
        rw [if_neg (by omega)] at g
        exact g
      · have z1 : ¬ (4 : Int) < ((c + 1 : Nat) : Int) := fun w => z ((ilt (m := 4) rfl tc).mpr w)
        rw [if_pos (by omega)] at g
        exact g
    · have hn : ∀ i : Nat, i < 21 → ¬ mtc (L 43 x) (wdL i) (spc (L 43 x)) := fun i hi z => hm ⟨i, hi, z⟩
      rw [none_cmd g1 g2 hn]
      exact none0 hn M' _ h'
  · refine none0 (fun i hi z => g ?_) M' _ h'
    obtain ⟨q1, q2, q3⟩ := mtc_good hi z
    exact ⟨q1, q2⟩
