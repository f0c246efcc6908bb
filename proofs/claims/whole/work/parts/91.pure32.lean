theorem pl_scan {x n p : Nat} {M m : MzM} {L : MzV} {K : MzM → Prop} (h : A1 M m L) (hv : mz_i m (14, x) 3 = 1) (hn : n = (L 13 x).length) {R e : Nat} (he : e ≤ n) (hR : wp_Path_read_82 x K R (Int32.ofNat n) (Int32.ofNat p) (Int32.ofNat e) M) : ∀ (d at0 : Nat), at0 + d = e → (∀ j : Nat, at0 ≤ j → j < e → ¬ ix (L 13 x) j = 47) → wp_Path_read_82 x K (R + d) (Int32.ofNat n) (Int32.ofNat p) (Int32.ofNat at0) M := by
  obtain ⟨e1, e2, e3⟩ := h.line x
  intro d
  induction d with
  | zero =>
    intro at0 ha _
    have ha' : at0 = e := by omega
    subst ha'
    exact hR
  | succ d ih =>
    intro at0 ha hj
    have ta : (Int32.ofNat at0).toInt = (at0 : Int) := itn (by omega)
    have tn : (Int32.ofNat n).toInt = (n : Int) := itn (by omega)
    have sa : Int32.ofNat at0 + 1 = Int32.ofNat (at0 + 1) := i32_succ rfl
    have v1 : mz_i M (14, x) 3 = 1 := (h.1 _ _ rfl).trans hv
    refine ⟨fun q => absurd (v1.symm.trans q) (by decide), fun _ => ⟨fun q => absurd ((ilt tn ta).mp q) (by omega), fun _ => ⟨fun q => absurd ((ieq ta tn).mp q) (by omega), fun _ => ⟨at0, ta, by omega, fun _ => ?_, fun q => ?_⟩⟩⟩⟩
    · show wp_Path_read_82 x K (R + d) (Int32.ofNat n) (Int32.ofNat p) (Int32.ofNat at0 + 1) M
      rw [sa]
      exact ih (at0 + 1) (by omega) (fun j h1 h2 => hj j (by omega) h2)
    · rw [e3 at0 (by omega)] at q
      exact absurd q (hj at0 (by omega) (by omega))
theorem pl_addStep {x : Nat} {v : Int32} {M mf : MzM} {L : MzV} {acc : List Int32} {K : MzM → Prop} (h : A1 M (mz_si mf (14, x) 3 1) (lu L 15 x acc)) (ha : acc.length < 30) (h1 : ¬ v = -1 → ∀ M', A1 M' (mz_si mf (14, x) 3 1) (lu L 15 x (acc ++ [v])) → K M') (h0 : v = -1 → ∀ M', A1 M' (mz_si mf (14, x) 3 0) (lu L 15 x acc) → K M') : wp_Path_addStep x v M K := by
  obtain ⟨e1, e2, e3⟩ := h.2.2.1 15 14 1 30 x rfl
  rw [lu_same] at e1
  have t1 : (mz_i M (14, x) 1).toInt = (acc.length : Int) := by rw [e1]; exact itn (by omega)
  refine ⟨fun q => ?_, fun q => ⟨fun _ => ⟨acc.length, t1, ha, ?_⟩, fun h9 => absurd ((ilt (n := 30) t1 rfl).mpr (by omega)) h9⟩⟩
  · rintro _ rfl
    exact h0 q _ (h.si (o := (14, x)) (k := 3) (v := 0) rfl).over
  · rintro _ rfl _ rfl
    have hp := A1.push (t := 15) (i := x) (v := v) (w := mz_i (mz_si M (15, x) acc.length v) (14, x) 1 + 1) h rfl (by rw [lu_same]; exact ha) (by rw [lu_same]; exact i32_succ e1)
    rw [lu_same, lu_lu] at hp
    exact h1 q _ hp
theorem pl_path_step {x p : Nat} {M mf : MzM} {L : MzV} {acc : List Int32} {K : MzM → Prop} (h2 : p ≤ (L 13 x).length) (hacc : acc.length < 30) (h : A1 M (mz_si mf (14, x) 3 1) (lu L 15 x acc)) (c1 : p < se (L 13 x) p → se (L 13 x) p = (L 13 x).length → ∀ M', A1 M' (mz_si mf (14, x) 3 1) (lu L 15 x (acc ++ [sv (L 13 x) p])) → K M') (c2 : p < se (L 13 x) p → se (L 13 x) p < (L 13 x).length → chv (L 13 x) (se (L 13 x) p) = 47 → ∀ M', A1 M' (mz_si mf (14, x) 3 1) (lu L 15 x (acc ++ [sv (L 13 x) p])) → wp_Path_read_82 x K ((L 13 x).length - (se (L 13 x) p + 1) + 2) (Int32.ofNat (L 13 x).length) (Int32.ofNat (se (L 13 x) p + 1)) (Int32.ofNat (se (L 13 x) p + 1)) M') (c0 : ¬ (p < se (L 13 x) p ∧ (se (L 13 x) p = (L 13 x).length ∨ chv (L 13 x) (se (L 13 x) p) = 47)) → ∀ M' ss, A1 M' (mz_si mf (14, x) 3 0) (lu L 15 x ss) → K M') : wp_Path_read_82 x K ((L 13 x).length - p + 2) (Int32.ofNat (L 13 x).length) (Int32.ofNat p) (Int32.ofNat p) M := by
  obtain ⟨n1, n2, n3, n4⟩ := nxt_spec (L 13 x) ((L 13 x).length - p) p (by omega)
  generalize nxt (L 13 x) ((L 13 x).length - p) p = e at n1 n2 n3 n4
  have el : lu L 15 x acc 13 x = L 13 x := lu_ne L _ (fun z => absurd z.1 (by decide))
  obtain ⟨q1, q2, q3⟩ := h.line x
  rw [el] at q1 q2 q3
  have te : (Int32.ofNat e).toInt = (e : Int) := itn (by omega)
  have tn : (Int32.ofNat (L 13 x).length).toInt = ((L 13 x).length : Int) := itn (by omega)
  have se1 : Int32.ofNat e + 1 = Int32.ofNat (e + 1) := i32_succ rfl
  have te1 : (Int32.ofNat (e + 1)).toInt = ((e + 1 : Nat) : Int) := itn (by omega)
  have v1 : mz_i M (14, x) 3 = 1 := (h.1 (14, x) 3 rfl).trans (by rw [mz_i_si, if_pos ⟨rfl, rfl⟩])
  have t110 : wp_Path_read_110 x (wp_Path_read_82 x K ((L 13 x).length - e + 1)) K (Int32.ofNat (L 13 x).length) (Int32.ofNat p) (Int32.ofNat e) M := by
    refine pl_readStep h n1 (by rw [el]; exact n2) ?_
    rw [el]
    refine pl_addStep h hacc (fun hv M' h' => ?_) (fun hv M' h' => ?_)
    · rcases rs_se n1 n2 n3 n4 with ⟨r1, r2, r3, r4⟩ | ⟨r1, r2⟩
      · rw [r3] at h'
        show wp_Path_read_82 x K ((L 13 x).length - e + 1) (Int32.ofNat (L 13 x).length) (Int32.ofNat e + 1) (Int32.ofNat e + 1) M'
        rw [se1]
        by_cases hen : e = (L 13 x).length
        · have v1' : mz_i M' (14, x) 3 = 1 := (h'.1 (14, x) 3 rfl).trans (by rw [mz_i_si, if_pos ⟨rfl, rfl⟩])
          exact ⟨fun z => absurd (v1'.symm.trans z) (by decide), fun _ => ⟨fun _ => c1 (by omega) (by omega) M' h', fun z => absurd ((ilt tn te1).mpr (by omega)) z⟩⟩
        · have c47 : chv (L 13 x) (se (L 13 x) p) = 47 := by
            rw [r1, chv_ix (by omega)]
            exact n4.elim (fun z => absurd z hen) id
          have g := c2 (by omega) (by omega) c47 M' h'
          rw [r1] at g
          have ef : (L 13 x).length - (e + 1) + 2 = (L 13 x).length - e + 1 := by omega
          rw [ef] at g
          exact g
      · exact absurd r1 hv
    · rcases rs_se n1 n2 n3 n4 with ⟨r1, r2, r3, r4⟩ | ⟨r1, r2⟩
      · exact absurd hv r4
      · have v0 : mz_i M' (14, x) 3 = 0 := (h'.1 (14, x) 3 rfl).trans (by rw [mz_i_si, if_pos ⟨rfl, rfl⟩])
        exact ⟨fun _ => c0 r2 M' _ h', fun z => absurd v0 z⟩
  have ef : (L 13 x).length - p + 2 = (L 13 x).length - e + 1 + 1 + (e - p) := by omega
  rw [ef]
  refine pl_scan (n := (L 13 x).length) h (by rw [mz_i_si, if_pos ⟨rfl, rfl⟩]) (by rw [el]) n2 ?_ (e - p) p (by omega) (by rw [el]; exact n3)
  refine ⟨fun z => absurd (v1.symm.trans z) (by decide), fun _ => ⟨fun z => absurd ((ilt tn te).mp z) (by omega), fun _ => ⟨fun _ => t110, fun z => ?_⟩⟩⟩
  have hen : ¬ e = (L 13 x).length := fun q => z ((ieq te tn).mpr (by omega))
  refine ⟨e, te, by omega, fun q => ?_, fun _ => t110⟩
  rw [q3 e (by omega)] at q
  exact absurd (n4.elim (fun z => absurd z hen) id) q
theorem pl_path_loop {x : Nat} {mf : MzM} {L : MzV} {K : MzM → Prop} (h30 : (L 13 x).length ≤ 30) : ∀ (f p : Nat) (acc : List Int32) (M : MzM), (L 13 x).length ≤ p + f → p ≤ (L 13 x).length → acc.length < p → A1 M (mz_si mf (14, x) 3 1) (lu L 15 x acc) → (∀ ss, p < (L 13 x).length → sg (L 13 x) f p = some ss → ∀ M', A1 M' (mz_si mf (14, x) 3 1) (lu L 15 x (acc ++ ss)) → K M') → ((¬ p < (L 13 x).length ∨ sg (L 13 x) f p = none) → ∀ M' ss, A1 M' (mz_si mf (14, x) 3 0) (lu L 15 x ss) → K M') → wp_Path_read_82 x K ((L 13 x).length - p + 2) (Int32.ofNat (L 13 x).length) (Int32.ofNat p) (Int32.ofNat p) M := by
  intro f
  induction f with
  | zero =>
    intro p acc M h1 h2 hacc h hv hi
    exact pl_path_step h2 (by omega) h (fun z1 z2 => absurd z1 (by omega)) (fun z1 z2 => absurd z1 (by omega)) (fun _ => hi (Or.inl (by omega)))
  | succ f ih =>
    intro p acc M h1 h2 hacc h hv hi
    have eS : sg (L 13 x) (f + 1) p = if p < se (L 13 x) p ∧ (se (L 13 x) p = (L 13 x).length ∨ (chv (L 13 x) (se (L 13 x) p) = 47 ∧ se (L 13 x) p + 1 < (L 13 x).length)) then (if se (L 13 x) p < (L 13 x).length then (sg (L 13 x) f (se (L 13 x) p + 1)).map (fun ss => sv (L 13 x) p :: ss) else some [sv (L 13 x) p]) else none := rfl
    rw [eS] at hi
    refine pl_path_step h2 (by omega) h (fun z1 z2 M' h' => ?_) (fun z1 z2 z3 M' h' => ?_) (fun z => hi (Or.inr (if_neg (fun w => z ⟨w.1, w.2.elim Or.inl (fun w => Or.inr w.1)⟩))))
    · refine hv [sv (L 13 x) p] (by omega) ?_ M' h'
      rw [eS, if_pos ⟨z1, Or.inl z2⟩, if_neg (by omega)]
    · refine ih (se (L 13 x) p + 1) (acc ++ [sv (L 13 x) p]) M' (by omega) (by omega) (by simp only [List.length_append, List.length_singleton]; omega) h' (fun ss w1 w2 M3 h3 => ?_) (fun w M3 ss h3 => ?_)
      · refine hv (sv (L 13 x) p :: ss) (by omega) ?_ M3 ?_
        · rw [eS, if_pos ⟨z1, Or.inr ⟨z3, w1⟩⟩, if_pos z2, w2]
          rfl
        · rw [List.append_assoc] at h3
          exact h3
      · refine hi (Or.inr ?_) M3 ss h3
        by_cases w1 : se (L 13 x) p + 1 < (L 13 x).length
        · rw [if_pos ⟨z1, Or.inr ⟨z3, w1⟩⟩, if_pos z2, w.elim (fun q => absurd w1 q) id]
          rfl
        · rw [if_neg]
          rintro ⟨_, q⟩
          rcases q with q | q
          · omega
          · exact w1 q.2
/-- does a path begin at the root -/
def frI (l : List Int32) (b : Nat) : Int32 := if chv l b = 47 then 1 else 0
theorem pl_path {x b : Nat} {M m : MzM} {L : MzV} {K : MzM → Prop} (h : A1 M m L) (hb1 : 1 ≤ b) (hb2 : b ≤ (L 13 x).length + 1) (hv : ∀ ss, pth (L 13 x) b = some ss → ∀ M', A1 M' (mz_si (mz_si m (14, x) 2 (frI (L 13 x) b)) (14, x) 3 1) (lu L 15 x ss) → K M') (hi : pth (L 13 x) b = none → ∀ M' ss, A1 M' (mz_si (mz_si m (14, x) 2 (frI (L 13 x) b)) (14, x) 3 0) (lu L 15 x ss) → K M') : wp_Path_read x (Int32.ofNat b) (Int32.ofNat (L 13 x).length) M K := by
  obtain ⟨e1, e2, e3⟩ := h.line x
  have tb : (Int32.ofNat b).toInt = (b : Int) := itn (by omega)
  have tn : (Int32.ofNat (L 13 x).length).toInt = ((L 13 x).length : Int) := itn (by omega)
  have sb : Int32.ofNat b + 1 = Int32.ofNat (b + 1) := i32_succ rfl
  have tb1 : (Int32.ofNat (b + 1)).toInt = ((b + 1 : Nat) : Int) := itn (by omega)
  have t78 : ∀ (fr : Int32) (p : Nat) (N : MzM), 1 ≤ p → p ≤ (L 13 x).length → A1 N (mz_si (mz_si m (14, x) 2 fr) (14, x) 3 1) (lu L 15 x []) → (∀ ss, p < (L 13 x).length → sg (L 13 x) (L 13 x).length p = some ss → ∀ M', A1 M' (mz_si (mz_si m (14, x) 2 fr) (14, x) 3 1) (lu L 15 x ss) → K M') → ((¬ p < (L 13 x).length ∨ sg (L 13 x) (L 13 x).length p = none) → ∀ M' ss, A1 M' (mz_si (mz_si m (14, x) 2 fr) (14, x) 3 0) (lu L 15 x ss) → K M') → wp_Path_read_78 x K (Int32.ofNat (L 13 x).length) (Int32.ofNat p) N := by
    intro fr p N h1 h2 hN c1 c0
    exact ⟨_, pl_path_loop e2 (L 13 x).length p [] N (by omega) h2 (by simp only [List.length_nil]; omega) hN c1 c0⟩
  rintro _ rfl
  have h0 := h.clr (t := 15) (i := x) rfl
  have cell : ∀ j : Nat, j < (L 13 x).length → mz_i (mz_si M (14, x) 1 0) (13, x) j = ix (L 13 x) j := e3
  have t24a : ¬ chv (L 13 x) b = 47 → wp_Path_read_24 x K (Int32.ofNat b) (Int32.ofNat (L 13 x).length) 0 (mz_si M (14, x) 1 0) := by
    intro hc
    have ef : frI (L 13 x) b = 0 := if_neg hc
    rw [ef] at hv hi
    unfold pth at hv hi
    rw [if_neg (fun z => hc z.1), if_neg hc] at hv hi
    refine ⟨Or.inl rfl, ?_⟩
    rintro _ rfl
    have h2 := h0.si (o := (14, x)) (k := 2) (v := 0) rfl
    have f0 : mz_i (mz_si (mz_si M (14, x) 1 0) (14, x) 2 0) (14, x) 2 = 0 := by rw [mz_i_si, if_pos ⟨rfl, rfl⟩]
    refine ⟨fun _ => ⟨fun z => absurd f0 z, fun _ => ⟨fun q => ⟨Or.inl rfl, ?_⟩, fun q => ⟨Or.inr rfl, ?_⟩⟩⟩, fun z => absurd f0 z⟩
    · have q1 := (ile tn tb).mp q
      rw [if_neg (by omega)] at hi
      rintro _ rfl
      have h3 := h2.si (o := (14, x)) (k := 3) (v := 0) rfl
      have f3 : mz_i (mz_si (mz_si (mz_si M (14, x) 1 0) (14, x) 2 0) (14, x) 3 0) (14, x) 2 = 0 := (mz_ne_k (by decide)).trans f0
      refine ⟨fun _ => ⟨1, fun _ => hi rfl _ _ h3, fun z => absurd ?_ z⟩, fun z => absurd f3 z⟩
      rw [mz_i_si, if_pos ⟨rfl, rfl⟩]
    · have q1 : ¬ ((L 13 x).length : Int) ≤ (b : Int) := fun z => q ((ile tn tb).mpr z)
      rw [if_pos (by omega)] at hv hi
      rintro _ rfl
      have h3 := h2.si (o := (14, x)) (k := 3) (v := 1) rfl
      have f3 : mz_i (mz_si (mz_si (mz_si M (14, x) 1 0) (14, x) 2 0) (14, x) 3 1) (14, x) 2 = 0 := (mz_ne_k (by decide)).trans f0
      exact ⟨fun _ => t78 0 b _ hb1 (by omega) h3 (fun ss _ => hv ss) (fun z => hi (z.elim (fun z => absurd (by omega) z) id)), fun z => absurd f3 z⟩
  refine ⟨fun q => t24a ?_, fun q => ⟨b, tb, ?_, fun q2 => t24a ?_, fun q2 => ?_⟩⟩
  · have q1 := (ile tn tb).mp q
    rw [chv_none (by omega)]
    decide
  · have q1 : ¬ ((L 13 x).length : Int) ≤ (b : Int) := fun z => q ((ile tn tb).mpr z)
    omega
  · have q1 : ¬ ((L 13 x).length : Int) ≤ (b : Int) := fun z => q ((ile tn tb).mpr z)
    rw [chv_ix (by omega), ← cell b (by omega)]
    exact q2
  · have q1 : ¬ ((L 13 x).length : Int) ≤ (b : Int) := fun z => q ((ile tn tb).mpr z)
    have hc : chv (L 13 x) b = 47 := by
      rw [chv_ix (by omega), ← cell b (by omega)]
      exact q2
    have ef : frI (L 13 x) b = 1 := if_pos hc
    rw [ef] at hv hi
    refine ⟨Or.inr rfl, ?_⟩
    rintro _ rfl
    have h2 := h0.si (o := (14, x)) (k := 2) (v := 1) rfl
    have f0 : mz_i (mz_si (mz_si M (14, x) 1 0) (14, x) 2 1) (14, x) 2 = 1 := by rw [mz_i_si, if_pos ⟨rfl, rfl⟩]
    refine ⟨fun z => absurd (f0.symm.trans z) (by decide), fun _ => ⟨fun _ => ⟨Or.inr rfl, ?_⟩, fun z => absurd (f0.symm.trans z) (by decide)⟩⟩
    rw [sb]
    rintro _ rfl
    have h3 := h2.si (o := (14, x)) (k := 3) (v := 1) rfl
    have f3 : mz_i (mz_si (mz_si (mz_si M (14, x) 1 0) (14, x) 2 1) (14, x) 3 1) (14, x) 2 = 1 := (mz_ne_k (by decide)).trans f0
    refine ⟨fun z => absurd (f3.symm.trans z) (by decide), fun _ => ⟨fun z => ?_, fun z => ?_⟩⟩
    · have hn : ¬ b + 1 = (L 13 x).length := fun w => z (by rw [w])
      unfold pth at hv hi
      rw [if_neg (fun w => hn w.2.symm), if_pos hc, if_pos (by omega)] at hv hi
      exact t78 1 (b + 1) _ (by omega) (by omega) h3 (fun ss _ => hv ss) (fun z => hi (z.elim (fun z => absurd (by omega) z) id))
    · have hn := ofN_inj (by omega) (by omega) z
      refine hv [] ?_ _ h3
      unfold pth
      rw [if_pos ⟨hc, by omega⟩]
