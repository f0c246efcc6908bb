/-! a step of the copier -/
/-- a job is on: it brings (b), its next step is v, nothing is thrown -/
def cs (m2 : MzM) (b v : Int32) : Prop := mz_i m2 (30, 0) 38 = 1 ∧ mz_i m2 (30, 0) 39 = b ∧ mz_i m2 (30, 0) 43 = v ∧ mz_i m2 (30, 0) 1 = 0
theorem cs.mv {m1 m2 m1' m2' : MzM} {b v : Int32} (h : cs m2 b v) (hc : cpF m1 m2 m1' m2') : cs m2' b v := ⟨hc.2.2.1.trans h.1, hc.2.2.2.1.trans h.2.1, hc.2.2.2.2.2.2.2.1.trans h.2.2.1, hc.2.2.2.2.2.2.2.2.2.trans h.2.2.2⟩
/-- what stands in a step; t: the size is the same in both -/
def SS (t : Bool) (b v : Int32) (M1 M2 : MzM) : Prop := ∃ (m1 : MzM) (L1 : MzV) (m2 : MzM) (L2 : MzV), A1 M1 m1 L1 ∧ A2 M2 m2 L2 ∧ EE m1 L1 m2 L2 ∧ cs m2 b v ∧ (t = true → mz_i m1 (22, 0) 8 = mz_i m2 (30, 0) 44)
/-- and behind a line -/
def SA (t : Bool) (b v : Int32) (M1 M2 : MzM) : Prop := SS t b v M1 M2 ∧ mz_i M2 (30, 0) 30 = mz_i M1 (8, 1) 16 ∧ ¬ mz_i M2 (30, 0) 30 ≤ 0 ∧ (mz_i M1 (8, 1) 16 = 213 → ∃ k : Nat, k < 25 ∧ mz_i M1 (8, 1) 14 = Int32.ofNat k ∧ mz_i M2 (30, 0) 31 = Int32.ofNat k)
theorem ss_say {w j : Nat} {t : Bool} {b v tail a1 y2 y3 y4 : Int32} {M1 M2 : MzM} {K : MzM → Prop} (hob : ∀ c : Nat, c < 21 → obPred 1 c) (h : SS t b v M1 M2) (hw : 12 ≤ w ∧ w < 23) (ha : a1.toInt = (j : Int)) (hj : j < 22) (ht : ∃ q : Nat, tail.toInt = (q : Int)) (h3 : ∃ q : Nat, y3.toInt = (q : Int) ∧ q < 128 ^ 3) (heq : mzStrB.getD w [] ++ (ltr 3 tail ++ [13, 10]) = rL j a1 y2 y3 y4) (hk : ∀ M1' M2', SA t b v M1' M2' → (∀ K2 : Int32 → MzM → Prop, K2 (mz_i M2' (30, 0) 30) M2' → wp_Mo_say a1 y2 y3 y4 M2 K2) → K M1') : wp_Cop_say w tail M1 K := by
  obtain ⟨m1, L1, m2, L2, h1, h2, hE, hc, hz⟩ := h
  obtain ⟨q1, q2, q3⟩ := str_ok w hw.1 hw.2
  refine say_cr hob ⟨m1, L1, m2, L2, h1, h2, hE, cpF.rfl m1 m2⟩ q1 q2 q3 ha hj ht h3 heq (fun M1' M2' hS hgo => hk M1' M2' ?_ hgo)
  obtain ⟨n1, l1, n2, l2, g1, g2, gE, gc, ⟨g4, g5⟩, g6⟩ := hS
  have e16 : mz_i M1' (8, 1) 16 = mz_i n1 (8, 1) 16 := g1.1 (8, 1) 16 rfl
  have e14 : mz_i M1' (8, 1) 14 = mz_i n1 (8, 1) 14 := g1.1 (8, 1) 14 rfl
  have e30 : mz_i M2' (30, 0) 30 = mz_i n2 (30, 0) 30 := g2.1 30 30 rfl
  have e31 : mz_i M2' (30, 0) 31 = mz_i n2 (30, 0) 31 := g2.1 30 31 rfl
  refine ⟨⟨n1, l1, n2, l2, g1, g2, gE, hc.mv gc, fun z => ((gc.1 8).trans (hz z)).trans gc.2.2.2.2.2.2.2.2.1.symm⟩, ?_, ?_, ?_⟩
  · rw [e16, e30, g4]
  · rw [e30, ← g4]
    exact g5
  · rw [e16, e14, e31]
    intro z
    obtain ⟨p1, k, p2, p3⟩ := g6 z
    exact ⟨k, p2, p1.trans p3, p3⟩
theorem SS.cop {t : Bool} {b v : Int32} {M1 M2 : MzM} (h : SS t b v M1 M2) : ∃ k : Nat, k < 3 ∧ mz_r M1 (22, 0) 1 = some (20, k) ∧ mz_i M2 (30, 0) 40 = Int32.ofNat k ∧ mz_i M1 (22, 0) 4 = mz_i M2 (30, 0) 41 ∧ nmE (mz_i M2 (30, 0) 41) ∧ mz_i M2 (30, 0) 39 = b ∧ ∃ n : Nat, n ≤ 24 ∧ mz_i M1 (20, k) 1 = Int32.ofNat n ∧ mz_i M2 (59, 0) k = Int32.ofNat n := by
  obtain ⟨m1, L1, m2, L2, h1, h2, hE, hc, hz⟩ := h
  obtain ⟨_, c2⟩ := hE.2.2.2.2.2.2.1
  obtain ⟨_, ⟨k, hk, er, e40⟩, ⟨e4, hn⟩, _⟩ := c2 hc.1
  obtain ⟨d1, d2, _⟩ := h1.2.2.1 21 20 1 24 k rfl
  obtain ⟨f1, f2, _⟩ := h2.2 60 59 24 3 k rfl hk
  refine ⟨k, hk, (h1.2.1 _ _).trans er, (h2.1 30 40 rfl).trans e40, ?_, ?_, (h2.1 30 39 rfl).trans hc.2.1, (L1 21 k).length, d2, d1, ?_⟩
  · rw [h1.1 (22, 0) 4 rfl, h2.1 30 41 rfl]
    exact e4
  · rw [h2.1 30 41 rfl]
    exact hn
  · rw [f1, hE.2.2.2.2.2.2.2.2 k hk]
theorem some20 {p : Option MzL} {n n' : Nat} (h : p = some (20, n)) (h' : p = some (20, n')) : n' = n := by
  rw [h] at h'
  injection h' with h'
  injection h' with _ h'
  exact h'.symm
theorem some20n {p : Option MzL} {n : Nat} (h : p = some (20, n)) : ¬ p = none := by
  rw [h]
  exact fun z => by cases z
/-- what is handed over at the end of a step -/
def PostS (M1 M2 : MzM) : Prop := mz_i M2 (30, 0) 1 = 0 ∧ RR M1 M2
theorem ss_go {t : Bool} {b v v' : Int32} {M1 M2 : MzM} (h : SS t b v M1 M2) (hv : ¬ v = 5) (hv' : v' = 1 ∨ v' = 2 ∨ v' = 3) (h2' : v' = 2 → b = 0 → t = true) : PostS (mz_si M1 (22, 0) 6 v') (mz_si (mz_si M2 (30, 0) 43 v') (30, 0) 38 1) := by
  obtain ⟨m1, L1, m2, L2, h1, h2, hE, hc, hz⟩ := h
  refine ⟨(h2.1 30 1 rfl).trans hc.2.2.2, _, _, _, _, h1.si (o := (22, 0)) (k := 6) (v := v') rfl, (h2.si (t := 30) (k := 43) (v := v') rfl).si (t := 30) (k := 38) (v := 1) rfl, hE.1, hE.2.1, hE.2.2.1, hE.2.2.2.1, hE.2.2.2.2.1, hE.2.2.2.2.2.1, ?_, hE.2.2.2.2.2.2.2⟩
  obtain ⟨c1, c2⟩ := hE.2.2.2.2.2.2.1
  obtain ⟨q3, q1, q4, q5, q6, q8⟩ := c2 hc.1
  have q7 : mz_i m1 (22, 0) 7 = 0 := by
    rcases q6 with ⟨z, _⟩ | ⟨_, z, _⟩
    · exact z
    · exact absurd (hc.2.2.1.symm.trans z) hv
  refine ⟨⟨c1.1.trans hc.1, Or.inr rfl⟩, fun _ => ⟨q3, q1, q4, q5, Or.inl ⟨q7, rfl, Or.inr hv'⟩, fun z z2 => hz (h2' z (hc.2.1.symm.trans z2))⟩⟩
theorem ss_fin {t : Bool} {b v v' : Int32} {M1 M2 : MzM} (h : SS t b v M1 M2) : PostS (mz_si M1 (22, 0) 2 0) (mz_si (mz_si M2 (30, 0) 43 v') (30, 0) 38 0) := by
  obtain ⟨m1, L1, m2, L2, h1, h2, hE, hc, hz⟩ := h
  exact ⟨(h2.1 30 1 rfl).trans hc.2.2.2, _, _, _, _, h1.si (o := (22, 0)) (k := 2) (v := 0) rfl, (h2.si (t := 30) (k := 43) (v := v') rfl).si (t := 30) (k := 38) (v := 0) rfl, hE.1, hE.2.1, hE.2.2.1, hE.2.2.2.1, hE.2.2.2.2.1, hE.2.2.2.2.2.1, ⟨⟨rfl, Or.inl rfl⟩, fun z => absurd (show (0 : Int32) = 1 from z) (by decide)⟩, hE.2.2.2.2.2.2.2⟩
def stK (K : Int32 → MzM → Prop) (v8 : Int32) (M5 : MzM) : Prop := ∀ M9 : MzM, M9 = mz_si M5 (30, 0) 43 v8 → wp_Mo_step_109 K M9
theorem stK_go {K : Int32 → MzM → Prop} {v : Int32} {M : MzM} (hv : ¬ (4 : Int32) ≤ v) (h : K v (mz_si (mz_si M (30, 0) 43 v) (30, 0) 38 1)) : stK K v M := by
  rintro _ rfl
  refine ⟨fun z => absurd z hv, fun _ => ?_⟩
  rintro _ rfl
  exact h
theorem stK_fin {K : Int32 → MzM → Prop} {v : Int32} {M : MzM} (hv : (4 : Int32) ≤ v) (h : K v (mz_si (mz_si M (30, 0) 43 v) (30, 0) 38 0)) : stK K v M := by
  rintro _ rfl
  refine ⟨fun _ => ?_, fun z => absurd hv z⟩
  rintro _ rfl
  exact h
/-- the size is asked for: in the class it is kept where a file is fetched -/
theorem ss_44 {t : Bool} {b u : Int32} {M1 M2 : MzM} (h : SS t b 1 M1 M2) : SS false b 1 M1 (mz_si M2 (30, 0) 44 u) := by
  obtain ⟨m1, L1, m2, L2, h1, h2, hE, hc, hz⟩ := h
  refine ⟨m1, L1, _, L2, h1, h2.si (t := 30) (k := 44) (v := u) rfl, ⟨hE.1, hE.2.1, hE.2.2.1, hE.2.2.2.1, hE.2.2.2.2.1, hE.2.2.2.2.2.1, ?_, hE.2.2.2.2.2.2.2⟩, hc, fun z => absurd z (by decide)⟩
  obtain ⟨c1, c2⟩ := hE.2.2.2.2.2.2.1
  refine ⟨c1, fun z => ?_⟩
  obtain ⟨q3, q1, q4, q5, q6, q8⟩ := c2 z
  exact ⟨q3, q1, q4, q5, q6, fun w => absurd (hc.2.2.1.symm.trans w) (by decide)⟩
theorem ss_size {t : Bool} {b u : Int32} {M1 M2 : MzM} (h : SS t b 1 M1 M2) : SS true b 1 (mz_si M1 (22, 0) 8 u) (mz_si M2 (30, 0) 44 u) := by
  obtain ⟨m1, L1, m2, L2, h1, h2, hE, hc, hz⟩ := h
  refine ⟨_, L1, _, L2, h1.si (o := (22, 0)) (k := 8) (v := u) rfl, h2.si (t := 30) (k := 44) (v := u) rfl, ⟨hE.1, hE.2.1, hE.2.2.1, hE.2.2.2.1, hE.2.2.2.2.1, hE.2.2.2.2.2.1, ?_, hE.2.2.2.2.2.2.2⟩, hc, fun _ => rfl⟩
  obtain ⟨c1, c2⟩ := hE.2.2.2.2.2.2.1
  refine ⟨c1, fun z => ?_⟩
  obtain ⟨q3, q1, q4, q5, q6, q8⟩ := c2 z
  exact ⟨q3, q1, q4, q5, q6, fun w => absurd (hc.2.2.1.symm.trans w) (by decide)⟩
/-- the shelf k is emptied in both -/
theorem ss_clr {t : Bool} {b v : Int32} {M1 M2 : MzM} {k : Nat} (h : SS t b v M1 M2) : SS t b v (mz_si M1 (20, k) 1 0) (mz_si M2 (59, 0) k 0) := by
  obtain ⟨m1, L1, m2, L2, h1, h2, hE, hc, hz⟩ := h
  refine ⟨m1, _, m2, _, h1.clr (t := 21) (i := k) rfl, h2.clr (t := 60) (i := k) rfl, ⟨hE.1, hE.2.1, hE.2.2.1, hE.2.2.2.1, hE.2.2.2.2.1, hE.2.2.2.2.2.1, hE.2.2.2.2.2.2.1, hE.2.2.2.2.2.2.2.1, fun i hi => ?_⟩, hc, hz⟩
  by_cases hik : i = k
  · subst hik
    rw [lu_same, lu_same]
  · rw [lu_ne _ _ (fun z => hik z.2), lu_ne _ _ (fun z => hik z.2)]
    exact hE.2.2.2.2.2.2.2.2 i hi
/-! to log in -/
theorem ph_login {t : Bool} {b : Int32} {M1 G : MzM} {K : Int32 → MzM → Prop} (hob : ∀ c : Nat, c < 21 → obPred 1 c) (h : SS t b 0 M1 G) (hk : ∀ v M1', (∀ K2 : Int32 → MzM → Prop, (∀ M2', PostS M1' M2' → K2 v M2') → wp_Mo_login G (stK K2)) → K v M1') : wp_Cop_logIn M1 K := by
  have z0 : ∃ q : Nat, (0 : Int32).toInt = (q : Int) := ⟨0, rfl⟩
  have z3 : ∃ q : Nat, (0 : Int32).toInt = (q : Int) ∧ q < 128 ^ 3 := ⟨0, rfl, by decide⟩
  refine ss_say (w := 12) (j := 1) (a1 := 1) hob h (by decide) rfl (by decide) z0 ⟨97 + 128 * 100 + 16384 * 109, by decide, by decide⟩ lg_12 (fun M1a M2a ha ga => ?_)
  refine ss_say (w := 13) (j := 2) (a1 := 2) hob ha.1 (by decide) rfl (by decide) z0 ⟨107 + 128 * 101 + 16384 * 121, by decide, by decide⟩ lg_13 (fun M1b M2b hb gb => ?_)
  refine ss_say (w := 14) (j := 5) (a1 := 5) hob hb.1 (by decide) rfl (by decide) z0 z3 lg_14 (fun M1c M2c hc gc => ?_)
  refine ss_say (w := 15) (j := 10) (a1 := 10) hob hc.1 (by decide) rfl (by decide) z0 z3 lg_15 (fun M1d M2d hd gd => ?_)
  rintro _ rfl
  refine hk _ _ (fun K2 q => ?_)
  refine ga (fun v8 M5 => wp_Mo_three (107 : Int32) (101 : Int32) (121 : Int32) M5 (fun v12 M9 => wp_Mo_say (2 : Int32) (0 : Int32) v12 (-1 : Int32) M9 (fun v16 M13 => wp_Mo_say (5 : Int32) (73 : Int32) (0 : Int32) (-1 : Int32) M13 (fun v20 M17 => wp_Mo_say (10 : Int32) (0 : Int32) (0 : Int32) (-1 : Int32) M17 (fun v24 M21 => ((v24 ≤ 0 → stK K2 (5 : Int32) M21) ∧ (¬ v24 ≤ 0 → stK K2 (1 : Int32) M21))))))) ?_
  refine gb (fun v16 M13 => wp_Mo_say (5 : Int32) (73 : Int32) (0 : Int32) (-1 : Int32) M13 (fun v20 M17 => wp_Mo_say (10 : Int32) (0 : Int32) (0 : Int32) (-1 : Int32) M17 (fun v24 M21 => ((v24 ≤ 0 → stK K2 (5 : Int32) M21) ∧ (¬ v24 ≤ 0 → stK K2 (1 : Int32) M21))))) ?_
  refine gc (fun v20 M17 => wp_Mo_say (10 : Int32) (0 : Int32) (0 : Int32) (-1 : Int32) M17 (fun v24 M21 => ((v24 ≤ 0 → stK K2 (5 : Int32) M21) ∧ (¬ v24 ≤ 0 → stK K2 (1 : Int32) M21)))) ?_
  refine gd (fun v24 M21 => ((v24 ≤ 0 → stK K2 (5 : Int32) M21) ∧ (¬ v24 ≤ 0 → stK K2 (1 : Int32) M21))) ?_
  exact ⟨fun z => absurd z hd.2.2.1, fun _ => stK_go (by decide) (q _ (ss_go hd.1 (by decide) (Or.inl rfl) (fun z => absurd z (by decide))))⟩
/-! to ask for the file, and say where to begin -/
theorem ans_iff {t : Bool} {b v c : Int32} {M1 M2 : MzM} (h : SA t b v M1 M2) : mz_i M1 (8, 1) 16 = c ↔ mz_i M2 (30, 0) 30 = c := by
  rw [h.2.1]
theorem ph_62 {M1 G : MzM} {n k : Nat} {K : Int32 → MzM → Prop} (hob : ∀ c : Nat, c < 21 → obPred 1 c) (h : SS true 0 1 M1 G) (hr : mz_r M1 (22, 0) 1 = some (20, k)) (hk3 : k < 3) (hn : n ≤ 24) (e20 : mz_i M1 (20, k) 1 = Int32.ofNat n) (hk : ∀ v M1', (∀ K2 : Int32 → MzM → Prop, (∀ M2', PostS M1' M2' → K2 v M2') → wp_Mo_askFor_164 (stK K2) (Int32.ofNat n) G) → K v M1') : wp_Cop_beginFetching_62 K M1 := by
  refine ⟨fun z => absurd z (some20n hr), fun n' _ z => ?_, Or.inr ⟨k, hk3, hr⟩⟩
  have e := some20 hr z
  subst e
  rw [e20]
  refine cop_digits ?_
  refine ss_say (w := 18) (j := 11) (a1 := 11) hob h (by decide) rfl (by decide) (rs_pos n (by omega)) ⟨0, rfl, by decide⟩ (rs_18 n (by omega)) (fun M1a M2a ha ga => ?_)
  obtain ⟨_, _, _, _, e4, hnm, e39, _⟩ := ha.1.cop
  rw [e4]
  refine ss_say (w := 20) (j := 12) (a1 := 12) hob ha.1 (by decide) rfl (by decide) (nm_pos hnm).1 (nm_pos hnm).2 (nm_eq nm_20 (by decide) _) (fun M1b M2b hb gb => ?_)
  refine ⟨fun y => ?_, fun y => ?_⟩
  · rintro _ rfl
    have y' : ¬ mz_i M2b (30, 0) 30 = 150 := fun w => y ((ans_iff hb).mpr w)
    refine hk _ _ (fun K2 q => ga _ ⟨fun _ => gb _ ⟨fun _ => stK_fin (by decide) (q _ (ss_fin hb.1)), fun w => absurd w y'⟩, fun w => absurd e39 w⟩)
  · rintro _ rfl
    have y' : mz_i M2b (30, 0) 30 = 150 := (ans_iff hb).mp y
    refine hk _ _ (fun K2 q => ga _ ⟨fun _ => gb _ ⟨fun w => absurd y' w, fun _ => stK_go (by decide) (q _ (ss_go hb.1 (by decide) (Or.inr (Or.inl rfl)) (fun _ _ => rfl)))⟩, fun w => absurd e39 w⟩)
theorem ph_fetch {t : Bool} {M1 G : MzM} {K : Int32 → MzM → Prop} (hob : ∀ c : Nat, c < 21 → obPred 1 c) (h : SS t 0 1 M1 G) (hk : ∀ v M1', (∀ K2 : Int32 → MzM → Prop, (∀ M2', PostS M1' M2' → K2 v M2') → wp_Mo_askFor G (stK K2)) → K v M1') : wp_Cop_beginFetching M1 K := by
  obtain ⟨_, _, _, _, e4, hnm, e39, _⟩ := h.cop
  unfold wp_Cop_beginFetching
  rw [e4]
  refine ss_say (w := 16) (j := 9) (a1 := 9) hob h (by decide) rfl (by decide) (nm_pos hnm).1 (nm_pos hnm).2 (nm_eq nm_16 (by decide) _) (fun M1a M2a ha ga => ?_)
  have f39 : mz_i M2a (30, 0) 39 = 0 := by
    obtain ⟨_, _, _, _, _, _, q, _⟩ := ha.1.cop
    exact q
  refine ⟨fun y => ?_, fun y => ?_⟩
  · obtain ⟨c, hc25, e14, e31⟩ := ha.2.2.2 y
    have y' : mz_i M2a (30, 0) 30 = 213 := (ans_iff ha).mp y
    rw [e14]
    rintro _ rfl
    have hs := ss_size (u := Int32.ofNat c) ha.1
    obtain ⟨k, hk3, er, e40, _, _, g39, n, hn, e20, e59⟩ := hs.cop
    have e8 : mz_i (mz_si M1a (22, 0) 8 (Int32.ofNat c)) (22, 0) 8 = Int32.ofNat c := rfl
    have e44 : mz_i (mz_si M2a (30, 0) 44 (Int32.ofNat c)) (30, 0) 44 = Int32.ofNat c := rfl
    have t40 : (mz_i (mz_si M2a (30, 0) 44 (Int32.ofNat c)) (30, 0) 40).toInt = (k : Int) := by rw [e40]; exact itn (by omega)
    -- the reference, as far as this
    have pre : ∀ K2 : Int32 → MzM → Prop, wp_Mo_askFor_129 (stK K2) (Int32.ofNat n) (mz_si M2a (30, 0) 44 (Int32.ofNat c)) → wp_Mo_askFor G (stK K2) := by
      intro K2 q
      refine ⟨fun _ => ga (fun v5 M2 => ((¬ v5 = (213 : Int32) → wp_Mo_askFor_37 (stK K2) (0 : Int32) M2) ∧ (v5 = (213 : Int32) → wp_Mo_askFor_37 (stK K2) (1 : Int32) M2))) ⟨fun w => absurd y' w, fun _ => ⟨fun w => absurd w (by decide), fun _ => ?_⟩⟩, fun w => absurd e39 w⟩
      rw [e31]
      rintro _ rfl
      refine ⟨fun w => absurd g39 w, fun _ => ⟨fun _ => ⟨fun _ => ⟨k, t40, hk3, ?_⟩, fun w => absurd g39 w⟩, fun w => absurd w (by decide)⟩⟩
      rw [e59]
      exact ⟨fun _ => q, fun w => absurd g39 w⟩
    have tn : (Int32.ofNat n).toInt = (n : Int) := itn (by omega)
    have tc : (Int32.ofNat c).toInt = (c : Int) := itn (by omega)
    refine ⟨fun z => absurd z (some20n er), fun n' _ z => ?_, Or.inr ⟨k, hk3, er⟩⟩
    have e := some20 er z
    subst e
    rw [e20, e8]
    refine ⟨fun y2 => ?_, fun y2 => ⟨fun z => absurd z (some20n er), fun n' _ z => ?_, Or.inr ⟨n', hk3, er⟩⟩⟩
    · refine ph_62 hob hs er hk3 hn e20 (fun v M1' hr => hk v M1' (fun K2 q => pre K2 ⟨fun w => absurd g39 w, fun _ => ⟨n', t40, hk3, ?_⟩⟩))
      rw [e59, e44]
      exact ⟨fun _ => hr K2 q, fun w => absurd y2 w⟩
    · have e := some20 er z
      subst e
      rintro _ rfl
      refine ph_62 (n := 0) (k := n') hob (ss_clr (k := n') hs) er hk3 (by omega) ?_ (fun v M1' hr => hk v M1' (fun K2 q => pre K2 ⟨fun w => absurd g39 w, fun _ => ⟨n', t40, hk3, ?_⟩⟩))
      · rw [mz_i_si, if_pos ⟨rfl, rfl⟩]
        rfl
      · rw [e59, e44]
        refine ⟨fun w => absurd w y2, fun _ => ⟨n', t40, hk3, ?_⟩⟩
        rintro _ rfl
        exact hr K2 q
  · have y' : ¬ mz_i M2a (30, 0) 30 = 213 := fun w => y ((ans_iff ha).mpr w)
    rintro _ rfl
    refine hk _ _ (fun K2 q => ⟨fun _ => ga (fun v5 M2 => ((¬ v5 = (213 : Int32) → wp_Mo_askFor_37 (stK K2) (0 : Int32) M2) ∧ (v5 = (213 : Int32) → wp_Mo_askFor_37 (stK K2) (1 : Int32) M2))) ⟨fun _ => ⟨fun _ => ?_, fun w => absurd rfl w⟩, fun w => absurd w y'⟩, fun w => absurd e39 w⟩)
    rintro _ rfl
    exact ⟨fun w => absurd f39 w, fun _ => ⟨fun w => absurd rfl w, fun _ => stK_fin (by decide) (q _ (ss_fin (ss_44 ha.1)))⟩⟩
theorem ph_54 {t : Bool} {b : Int32} {M1 G : MzM} {n : Nat} {K : Int32 → MzM → Prop} (hob : ∀ c : Nat, c < 21 → obPred 1 c) (h : SS t b 1 M1 G) (hb0 : ¬ b = 0) (hn : n < 25) (hk : ∀ v M1', (∀ K2 : Int32 → MzM → Prop, (∀ M2', PostS M1' M2' → K2 v M2') → wp_Mo_askFor_164 (stK K2) (Int32.ofNat n) G) → K v M1') : wp_Cop_beginBringing_54 K (Int32.ofNat n) M1 := by
  refine cop_digits ?_
  refine ss_say (w := 18) (j := 11) (a1 := 11) hob h (by decide) rfl (by decide) (rs_pos n hn) ⟨0, rfl, by decide⟩ (rs_18 n hn) (fun M1a M2a ha ga => ?_)
  obtain ⟨_, _, _, _, _, _, e39, _⟩ := ha.1.cop
  have f39 : ¬ mz_i M2a (30, 0) 39 = 0 := by rw [e39]; exact hb0
  refine ss_say (w := 19) (j := 13) (a1 := 13) hob ha.1 (by decide) rfl (by decide) tmp_pos.1 tmp_pos.2 (nm_eq nm_19 (by decide) _) (fun M1b M2b hb gb => ?_)
  refine ⟨fun y => ?_, fun y => ?_⟩
  · rintro _ rfl
    have y' : ¬ mz_i M2b (30, 0) 30 = 150 := fun w => y ((ans_iff hb).mpr w)
    refine hk _ _ (fun K2 q => ga _ ⟨fun w => absurd w f39, fun _ => gb _ ⟨fun _ => stK_fin (by decide) (q _ (ss_fin hb.1)), fun w => absurd w y'⟩⟩)
  · rintro _ rfl
    have y' : mz_i M2b (30, 0) 30 = 150 := (ans_iff hb).mp y
    refine hk _ _ (fun K2 q => ga _ ⟨fun w => absurd w f39, fun _ => gb _ ⟨fun w => absurd y' w, fun _ => stK_go (by decide) (q _ (ss_go hb.1 (by decide) (Or.inr (Or.inl rfl)) (fun _ z => absurd z hb0)))⟩⟩)
theorem ph_32 {t : Bool} {b : Int32} {M1 G : MzM} {n : Nat} {K : Int32 → MzM → Prop} (hob : ∀ c : Nat, c < 21 → obPred 1 c) (h : SS t b 1 M1 G) (hb0 : ¬ b = 0) (hn : n < 25) (hk : ∀ v M1', (∀ K2 : Int32 → MzM → Prop, (∀ M2', PostS M1' M2' → K2 v M2') → wp_Mo_askFor_67 (stK K2) (mz_si G (30, 0) 44 (Int32.ofNat n))) → K v M1') : wp_Cop_beginBringing_32 K (Int32.ofNat n) M1 := by
  have hs := ss_44 (u := Int32.ofNat n) h
  obtain ⟨k, hk3, er, e40, _, _, g39, c, hc, e20, e59⟩ := hs.cop
  have f39 : ¬ mz_i (mz_si G (30, 0) 44 (Int32.ofNat n)) (30, 0) 39 = 0 := by rw [g39]; exact hb0
  have e44 : mz_i (mz_si G (30, 0) 44 (Int32.ofNat n)) (30, 0) 44 = Int32.ofNat n := rfl
  have t40 : (mz_i (mz_si G (30, 0) 44 (Int32.ofNat n)) (30, 0) 40).toInt = (k : Int) := by rw [e40]; exact itn (by omega)
  have pre : ∀ K2 : Int32 → MzM → Prop, (((Int32.ofNat n) ≤ (Int32.ofNat c) → wp_Mo_askFor_129 (stK K2) (Int32.ofNat n) (mz_si G (30, 0) 44 (Int32.ofNat n))) ∧ (¬ (Int32.ofNat n) ≤ (Int32.ofNat c) → wp_Mo_say (17 : Int32) (47 : Int32) (1849076 : Int32) (-1 : Int32) (mz_si G (30, 0) 44 (Int32.ofNat n)) (fun v23 M20 => wp_Mo_askFor_129 (stK K2) (0 : Int32) M20))) → wp_Mo_askFor_67 (stK K2) (mz_si G (30, 0) 44 (Int32.ofNat n)) := by
    intro K2 q
    refine ⟨fun w => absurd w f39, fun _ => ⟨fun w => absurd w f39, fun _ => ⟨k, t40, hk3, ?_⟩⟩⟩
    rw [e59, e44]
    exact q
  refine ⟨fun z => absurd z (some20n er), fun n' _ z => ?_, Or.inr ⟨k, hk3, er⟩⟩
  have e := some20 er z
  subst e
  rw [e20]
  refine ⟨fun y => ?_, fun y => ?_⟩
  · exact ph_54 hob hs hb0 hn (fun v M1' hr => hk v M1' (fun K2 q => pre K2 ⟨fun _ => ⟨fun _ => hr K2 q, fun w => absurd w f39⟩, fun w => absurd y w⟩))
  · refine ss_say (w := 17) (j := 17) (a1 := 17) hob hs (by decide) rfl (by decide) tmp_pos.1 tmp_pos.2 (nm_eq nm_17 (by decide) _) (fun M1a M2a ha ga => ?_)
    obtain ⟨_, _, _, _, _, _, a39, _⟩ := ha.1.cop
    have q39 : ¬ mz_i M2a (30, 0) 39 = 0 := by rw [a39]; exact hb0
    exact ph_54 (n := 0) hob ha.1 hb0 (by decide) (fun v M1' hr => hk v M1' (fun K2 q => pre K2 ⟨fun w => absurd w y, fun _ => ga _ ⟨fun _ => hr K2 q, fun w => absurd w q39⟩⟩))
theorem ph_bring {t : Bool} {b : Int32} {M1 G : MzM} {K : Int32 → MzM → Prop} (hob : ∀ c : Nat, c < 21 → obPred 1 c) (h : SS t b 1 M1 G) (hb0 : ¬ b = 0) (hk : ∀ v M1', (∀ K2 : Int32 → MzM → Prop, (∀ M2', PostS M1' M2' → K2 v M2') → wp_Mo_askFor G (stK K2)) → K v M1') : wp_Cop_beginBringing M1 K := by
  obtain ⟨_, _, _, _, _, _, e39, _⟩ := h.cop
  have f39 : ¬ mz_i G (30, 0) 39 = 0 := by rw [e39]; exact hb0
  refine ss_say (w := 16) (j := 9) (a1 := 9) hob h (by decide) rfl (by decide) tmp_pos.1 tmp_pos.2 (nm_eq nm_16 (by decide) _) (fun M1a M2a ha ga => ?_)
  obtain ⟨_, _, _, _, _, _, a39, _⟩ := ha.1.cop
  have q39 : ¬ mz_i M2a (30, 0) 39 = 0 := by rw [a39]; exact hb0
  refine ⟨fun y => ?_, fun y => ?_⟩
  · have y' : ¬ mz_i M2a (30, 0) 30 = 213 := fun w => y ((ans_iff ha).mpr w)
    refine ph_32 (n := 0) hob ha.1 hb0 (by decide) (fun v M1' hr => hk v M1' (fun K2 q => ⟨fun w => absurd w f39, fun _ => ga (fun v5 M2 => ((¬ v5 = (213 : Int32) → wp_Mo_askFor_37 (stK K2) (0 : Int32) M2) ∧ (v5 = (213 : Int32) → wp_Mo_askFor_37 (stK K2) (1 : Int32) M2))) ⟨fun _ => ⟨fun _ => ?_, fun w => absurd rfl w⟩, fun w => absurd w y'⟩⟩))
    rintro _ rfl
    exact ⟨fun _ => hr K2 q, fun w => absurd w q39⟩
  · have y' : mz_i M2a (30, 0) 30 = 213 := (ans_iff ha).mp y
    obtain ⟨c, hc25, e14, e31⟩ := ha.2.2.2 y
    rw [e14]
    refine ph_32 (n := c) hob ha.1 hb0 hc25 (fun v M1' hr => hk v M1' (fun K2 q => ⟨fun w => absurd w f39, fun _ => ga (fun v5 M2 => ((¬ v5 = (213 : Int32) → wp_Mo_askFor_37 (stK K2) (0 : Int32) M2) ∧ (v5 = (213 : Int32) → wp_Mo_askFor_37 (stK K2) (1 : Int32) M2))) ⟨fun w => absurd y' w, fun _ => ⟨fun w => absurd w (by decide), fun _ => ?_⟩⟩⟩))
    rw [e31]
    rintro _ rfl
    exact ⟨fun _ => hr K2 q, fun w => absurd w q39⟩
/-! to put the file in its place -/
theorem ph_put {t : Bool} {b : Int32} {M1 G : MzM} {K : Int32 → MzM → Prop} (hob : ∀ c : Nat, c < 21 → obPred 1 c) (h : SS t b 3 M1 G) (hk : ∀ v M1', (∀ K2 : Int32 → MzM → Prop, (∀ M2', PostS M1' M2' → K2 v M2') → wp_Mo_putName G (stK K2)) → K v M1') : wp_Cop_putInPlace M1 K := by
  obtain ⟨_, _, _, _, e4, hnm, _, _⟩ := h.cop
  unfold wp_Cop_putInPlace
  rw [e4]
  refine ss_say (w := 17) (j := 17) (a1 := 17) hob h (by decide) rfl (by decide) (nm_pos hnm).1 (nm_pos hnm).2 (nm_eq nm_17 (by decide) _) (fun M1a M2a ha ga => ?_)
  refine ss_say (w := 21) (j := 20) (a1 := 20) hob ha.1 (by decide) rfl (by decide) tmp_pos.1 tmp_pos.2 (nm_eq nm_21 (by decide) _) (fun M1b M2b hb gb => ?_)
  obtain ⟨_, _, _, _, f4, fnm, _, _⟩ := hb.1.cop
  rw [f4]
  refine ss_say (w := 22) (j := 21) (a1 := 21) hob hb.1 (by decide) rfl (by decide) (nm_pos fnm).1 (nm_pos fnm).2 (nm_eq nm_22 (by decide) _) (fun M1c M2c hc gc => ?_)
  refine ⟨fun y => ?_, fun y => ?_⟩
  · rintro _ rfl
    have y' : ¬ mz_i M2c (30, 0) 30 = 250 := fun w => y ((ans_iff hc).mpr w)
    refine hk _ _ (fun K2 q => ?_)
    refine ga (fun v4 M1 => wp_Mo_say (20 : Int32) (47 : Int32) (1849076 : Int32) (-1 : Int32) M1 (fun v8 M5 => wp_Mo_say (21 : Int32) (47 : Int32) (mz_i M5 (30, 0) 41) (-1 : Int32) M5 (fun v12 M9 => ((¬ v12 = (250 : Int32) → stK K2 (5 : Int32) M9) ∧ (v12 = (250 : Int32) → stK K2 (4 : Int32) M9))))) ?_
    refine gb (fun v8 M5 => wp_Mo_say (21 : Int32) (47 : Int32) (mz_i M5 (30, 0) 41) (-1 : Int32) M5 (fun v12 M9 => ((¬ v12 = (250 : Int32) → stK K2 (5 : Int32) M9) ∧ (v12 = (250 : Int32) → stK K2 (4 : Int32) M9)))) ?_
    exact gc (fun v12 M9 => ((¬ v12 = (250 : Int32) → stK K2 (5 : Int32) M9) ∧ (v12 = (250 : Int32) → stK K2 (4 : Int32) M9))) ⟨fun _ => stK_fin (by decide) (q _ (ss_fin hc.1)), fun w => absurd w y'⟩
  · rintro _ rfl
    have y' : mz_i M2c (30, 0) 30 = 250 := (ans_iff hc).mp y
    refine hk _ _ (fun K2 q => ?_)
    refine ga (fun v4 M1 => wp_Mo_say (20 : Int32) (47 : Int32) (1849076 : Int32) (-1 : Int32) M1 (fun v8 M5 => wp_Mo_say (21 : Int32) (47 : Int32) (mz_i M5 (30, 0) 41) (-1 : Int32) M5 (fun v12 M9 => ((¬ v12 = (250 : Int32) → stK K2 (5 : Int32) M9) ∧ (v12 = (250 : Int32) → stK K2 (4 : Int32) M9))))) ?_
    refine gb (fun v8 M5 => wp_Mo_say (21 : Int32) (47 : Int32) (mz_i M5 (30, 0) 41) (-1 : Int32) M5 (fun v12 M9 => ((¬ v12 = (250 : Int32) → stK K2 (5 : Int32) M9) ∧ (v12 = (250 : Int32) → stK K2 (4 : Int32) M9)))) ?_
    exact gc (fun v12 M9 => ((¬ v12 = (250 : Int32) → stK K2 (5 : Int32) M9) ∧ (v12 = (250 : Int32) → stK K2 (4 : Int32) M9))) ⟨fun w => absurd y' w, fun _ => stK_fin (by decide) (q _ (ss_fin hc.1))⟩
