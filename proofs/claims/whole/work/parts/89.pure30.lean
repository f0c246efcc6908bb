/-- what a step is worth -/
def sv (l : List Int32) (p : Nat) : Int32 := if chv l p = 46 then 0 else nmv l p (se l p - p)
/-- the steps of a path from p on, if all is well -/
def sg (l : List Int32) : Nat → Nat → Option (List Int32)
  | 0, _ => none
  | f + 1, p => if p < se l p ∧ (se l p = l.length ∨ (chv l (se l p) = 47 ∧ se l p + 1 < l.length)) then (if se l p < l.length then (sg l f (se l p + 1)).map (fun ss => sv l p :: ss) else some [sv l p]) else none
/-- what the reference calls a path, from its begin b -/
def pth (l : List Int32) (b : Nat) : Option (List Int32) :=
  if chv l b = 47 ∧ l.length = b + 1 then some []
  else if chv l b = 47 then (if b + 1 < l.length then sg l l.length (b + 1) else none)
  else (if b < l.length then sg l l.length b else none)
theorem mo_isPath_loop {x : Nat} {M m : MzM} {L : MzV} {K : Int32 → MzM → Prop} (h : A2 M m L) (hs : (mz_i m (30, 0) 29).toInt = (x : Int)) (hx : x < 2) : ∀ (f p : Nat), (L 43 x).length ≤ p + f → p < (L 43 x).length → ((sg (L 43 x) f p).isSome = true → K 1 M) → ((sg (L 43 x) f p).isSome = false → K 0 M) → wp_Mo_isPath_76 K (f + 1) (Int32.ofNat (L 43 x).length) (Int32.ofNat p) 1 1 M := by
  obtain ⟨e1, e2, e3⟩ := h.line hx
  have tn : (Int32.ofNat (L 43 x).length).toInt = ((L 43 x).length : Int) := itn (by omega)
  intro f
  induction f with
  | zero =>
    intro p h1 h2
    omega
  | succ f ih =>
    intro p h1 h2 k1 k0
    obtain ⟨g1, g2⟩ := se_ge (L 43 x) p
    have tp : (Int32.ofNat p).toInt = (p : Int) := itn (by omega)
    have tq : (Int32.ofNat (se (L 43 x) p)).toInt = ((se (L 43 x) p : Nat) : Int) := itn (by omega)
    have sq : Int32.ofNat (se (L 43 x) p) + 1 = Int32.ofNat (se (L 43 x) p + 1) := i32_succ rfl
    have tq1 : (Int32.ofNat (se (L 43 x) p + 1)).toInt = ((se (L 43 x) p + 1 : Nat) : Int) := itn (by omega)
    have eS : sg (L 43 x) (f + 1) p = if p < se (L 43 x) p ∧ (se (L 43 x) p = (L 43 x).length ∨ (chv (L 43 x) (se (L 43 x) p) = 47 ∧ se (L 43 x) p + 1 < (L 43 x).length)) then (if se (L 43 x) p < (L 43 x).length then (sg (L 43 x) f (se (L 43 x) p + 1)).map (fun ss => sv (L 43 x) p :: ss) else some [sv (L 43 x) p]) else none := rfl
    rw [eS] at k1 k0
    have bad : ¬ (p < se (L 43 x) p ∧ (se (L 43 x) p = (L 43 x).length ∨ (chv (L 43 x) (se (L 43 x) p) = 47 ∧ se (L 43 x) p + 1 < (L 43 x).length))) → wp_Mo_isPath_127 (wp_Mo_isPath_76 K (f + 1)) K (Int32.ofNat (L 43 x).length) (Int32.ofNat (se (L 43 x) p)) M := by
      intro hb
      rw [if_neg hb] at k0
      have k0' := k0 rfl
      exact ⟨fun _ => ⟨fun _ => ⟨Or.inl rfl, k0'⟩, fun h9 => absurd rfl h9⟩, fun _ => ⟨fun _ => ⟨Or.inl rfl, k0'⟩, fun h9 => absurd rfl h9⟩⟩
    have good : (p < se (L 43 x) p ∧ (se (L 43 x) p = (L 43 x).length ∨ (chv (L 43 x) (se (L 43 x) p) = 47 ∧ se (L 43 x) p + 1 < (L 43 x).length))) → wp_Mo_isPath_123 (wp_Mo_isPath_76 K (f + 1)) K (Int32.ofNat (L 43 x).length) (Int32.ofNat (se (L 43 x) p)) M := by
      intro hg
      rw [if_pos hg] at k1 k0
      refine ⟨fun q => ?_, fun q => ?_⟩
      · have q1 := (ile tn tq).mp q
        rw [if_neg (by omega)] at k1
        exact ⟨fun h9 => absurd h9 (by decide), fun _ => ⟨fun _ => ⟨Or.inr rfl, k1 rfl⟩, fun h9 => absurd rfl h9⟩⟩
      · have q1 : ¬ ((L 43 x).length : Int) ≤ ((se (L 43 x) p : Nat) : Int) := fun z => q ((ile tn tq).mpr z)
        rw [if_pos (by omega), Option.isSome_map] at k1 k0
        show wp_Mo_isPath_76 K (f + 1) (Int32.ofNat (L 43 x).length) (Int32.ofNat (se (L 43 x) p) + 1) 1 1 M
        rw [sq]
        refine ih (se (L 43 x) p + 1) (by omega) ?_ k1 k0
        rcases hg.2 with q2 | q2 <;> omega
    refine ⟨fun h9 => absurd h9 (by decide), fun _ => ⟨fun h9 => absurd h9 (by decide), fun _ => mo_stepEnd h hs hx rfl (by omega) ⟨fun q => bad (fun z => ?_), fun q => ⟨fun q2 => good ⟨?_, ?_⟩, fun q2 => mo_ch h hs hx tq (by omega) ⟨fun q3 => bad (fun z => ?_), fun q3 => ⟨fun q4 => bad (fun z => ?_), fun q4 => good ⟨?_, ?_⟩⟩⟩⟩⟩⟩⟩
    · have q1 := (ile tq tp).mp q
      omega
    · have q1 : ¬ ((se (L 43 x) p : Nat) : Int) ≤ (p : Int) := fun z => q ((ile tq tp).mpr z)
      omega
    · have q1 := (ieq tq tn).mp q2
      exact Or.inl (by omega)
    · rcases z.2 with z2 | z2
      · exact q2 ((ieq tq tn).mpr (by omega))
      · exact q3 z2.1
    · rw [sq] at q4
      have q1 := (ile tn tq1).mp q4
      rcases z.2 with z2 | z2
      · exact q2 ((ieq tq tn).mpr (by omega))
      · omega
    · have q1 : ¬ ((se (L 43 x) p : Nat) : Int) ≤ (p : Int) := fun z => q ((ile tq tp).mpr z)
      omega
    · have q1 : ¬ ((L 43 x).length : Int) ≤ ((se (L 43 x) p + 1 : Nat) : Int) := fun z => q4 (by rw [sq]; exact (ile tn tq1).mpr z)
      exact Or.inr ⟨q3, by omega⟩
theorem mo_isPath {x b : Nat} {M m : MzM} {L : MzV} {K : Int32 → MzM → Prop} (h : A2 M m L) (hs : (mz_i m (30, 0) 29).toInt = (x : Int)) (hx : x < 2) (hb : mz_i m (30, 0) 32 = Int32.ofNat b) (hb2 : b ≤ 31) (k1 : (pth (L 43 x) b).isSome = true → K 1 M) (k0 : (pth (L 43 x) b).isSome = false → K 0 M) : wp_Mo_isPath M K := by
  obtain ⟨e1, e2, e3⟩ := h.line hx
  have s0 : (mz_i M (30, 0) 29).toInt = (x : Int) := by rw [h.1 30 29 rfl]; exact hs
  have b0 : mz_i M (30, 0) 32 = Int32.ofNat b := (h.1 30 32 rfl).trans hb
  have tb : (Int32.ofNat b).toInt = (b : Int) := itn (by omega)
  have tb1 : (Int32.ofNat (b + 1)).toInt = ((b + 1 : Nat) : Int) := itn (by omega)
  have sb : Int32.ofNat b + 1 = Int32.ofNat (b + 1) := i32_succ rfl
  have tn : (Int32.ofNat (L 43 x).length).toInt = ((L 43 x).length : Int) := itn (by omega)
  have en : mz_i M (41, 0) x = Int32.ofNat (L 43 x).length := iofn e1
  have t61 : ∀ p : Nat, p ≤ 32 → (p < (L 43 x).length → (sg (L 43 x) (L 43 x).length p).isSome = true → K 1 M) → (p < (L 43 x).length → (sg (L 43 x) (L 43 x).length p).isSome = false → K 0 M) → (¬ p < (L 43 x).length → K 0 M) → wp_Mo_isPath_61 K (Int32.ofNat (L 43 x).length) (Int32.ofNat p) M := by
    intro p hp c1 c2 c3
    have tp : (Int32.ofNat p).toInt = (p : Int) := itn (by omega)
    refine ⟨fun q => ⟨1, ?_⟩, fun q => ⟨(L 43 x).length + 1, ?_⟩⟩
    · have q1 := (ile tn tp).mp q
      exact ⟨fun _ => ⟨Or.inl rfl, c3 (by omega)⟩, fun h9 => absurd rfl h9⟩
    · have q1 : ¬ ((L 43 x).length : Int) ≤ (p : Int) := fun z => q ((ile tn tp).mpr z)
      exact mo_isPath_loop h hs hx (L 43 x).length p (by omega) (by omega) (c1 (by omega)) (c2 (by omega))
  have t35 : ¬ (chv (L 43 x) b = 47 ∧ (L 43 x).length = b + 1) → wp_Mo_isPath_35 K (Int32.ofNat (L 43 x).length) M := by
    intro hn
    unfold pth at k1 k0
    rw [if_neg hn] at k1 k0
    have go : ((¬ chv (L 43 x) b = 47 → wp_Mo_isPath_61 K (Int32.ofNat (L 43 x).length) (Int32.ofNat b) M) ∧ (chv (L 43 x) b = 47 → wp_Mo_isPath_61 K (Int32.ofNat (L 43 x).length) (Int32.ofNat b + 1) M)) := by
      refine ⟨fun q => ?_, fun q => ?_⟩
      · rw [if_neg q] at k1 k0
        refine t61 b (by omega) (fun z => ?_) (fun z => ?_) (fun z => ?_)
        · rw [if_pos z] at k1
          exact k1
        · rw [if_pos z] at k0
          exact k0
        · rw [if_neg z] at k0
          exact k0 rfl
      · rw [if_pos q] at k1 k0
        rw [sb]
        refine t61 (b + 1) (by omega) (fun z => ?_) (fun z => ?_) (fun z => ?_)
        · rw [if_pos z] at k1
          exact k1
        · rw [if_pos z] at k0
          exact k0
        · rw [if_neg z] at k0
          exact k0 rfl
    show wp_Mo_ch (mz_i M (30, 0) 32) M _
    rw [b0]
    refine mo_ch h hs hx tb (by omega) ?_
    rw [b0]
    exact go
  refine ⟨x, s0, hx, ?_⟩
  rw [b0, en]
  refine mo_ch h hs hx tb (by omega) ⟨fun q => t35 (fun z => q z.1), fun q => ⟨fun q2 => t35 (fun z => q2 ?_), fun q2 => k1 ?_⟩⟩
  · rw [b0, sb, z.2]
  · rw [b0, sb] at q2
    have q3 := ofN_inj (by omega) (by omega) q2
    unfold pth
    rw [if_pos ⟨q, q3⟩]
    rfl
