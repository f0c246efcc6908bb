theorem mo_put {x : Nat} {a b : Int32} {M m : MzM} {L : MzV} {K : MzM → Prop} (h : A2 M m L) (ha : a.toInt = (x : Int)) (hx : x < 2) (hl : (L 45 x).length < 200) (hk : ∀ M', A2 M' m (lu L 45 x (L 45 x ++ [b])) → K M') : wp_Mo_put a b M K := by
  obtain ⟨e1, e2, e3⟩ := h.2 45 44 200 2 x rfl hx
  have e4 : (mz_i M (44, 0) x).toInt = ((L 45 x).length : Int) := by rw [e1]; exact itn (by omega)
  have e5 : ((200 : Int32) * a).toInt = 200 * (x : Int) := imul (m := 200) rfl ha (by omega) (by omega)
  have e6 : (((200 : Int32) * a) + (mz_i M (44, 0) x)).toInt = ((200 * x + (L 45 x).length : Nat) : Int) := by rw [iadd e5 e4 (by omega) (by omega)]; omega
  refine ⟨x, ha, hx, 200 * x + (L 45 x).length, e6, by omega, ?_⟩
  rintro _ rfl
  refine ⟨x, ha, hx, x, ha, hx, ?_⟩
  rintro _ rfl
  exact hk _ (A2.push (t := 45) (w := mz_i (mz_si M (45, 0) (200 * x + (L 45 x).length) b) (44, 0) x + 1) h rfl hx hl (i32_succ e1))
/-- put behind a queue q of which ds has been put already -/
theorem mo_put' {x : Nat} {a b : Int32} {M m : MzM} {L : MzV} {q : List Int32} {K : MzM → Prop} (h : A2 M m (lu L 45 x q)) (ha : a.toInt = (x : Int)) (hx : x < 2) (hl : q.length < 200) (hk : ∀ M', A2 M' m (lu L 45 x (q ++ [b])) → K M') : wp_Mo_put a b M K := by
  refine mo_put h ha hx (by rw [lu_same]; exact hl) (fun M' h' => hk M' ?_)
  rw [lu_same, lu_lu] at h'
  exact h'
theorem mo_hasRoom {x n : Nat} {a c : Int32} {M m : MzM} {L : MzV} {K : Int32 → MzM → Prop} (h : A2 M m L) (ha : a.toInt = (x : Int)) (hx : x < 2) (hc : c.toInt = (n : Int)) (hn : n ≤ 1000) (h1 : (L 45 x).length + n ≤ 200 → K 1 M) (h0 : ¬ (L 45 x).length + n ≤ 200 → K 0 M) : wp_Mo_hasRoom a c M K := by
  obtain ⟨e1, e2, e3⟩ := h.2 45 44 200 2 x rfl hx
  have e4 : (mz_i M (44, 0) x).toInt = ((L 45 x).length : Int) := by rw [e1]; exact itn (by omega)
  have e5 := iadd e4 hc (by omega) (by omega)
  refine ⟨x, ha, hx, fun h9 => h0 ?_, fun h9 => h1 ?_⟩
  · have q := (ilt (m := 200) rfl e5).mp h9
    omega
  · have q : ¬ (200 : Int) < ((L 45 x).length : Int) + (n : Int) := fun q => h9 ((ilt (m := 200) rfl e5).mpr q)
    omega
theorem mo_putCode {x : Nat} {c : Int32} {M m : MzM} {L : MzV} {q : List Int32} {K : MzM → Prop} (h : A2 M m (lu L 45 x q)) (hs : (mz_i m (30, 0) 29).toInt = (x : Int)) (hx : x < 2) (hl : q.length + 3 ≤ 200) (hk : ∀ M', A2 M' m (lu L 45 x (q ++ dgo c)) → K M') : wp_Mo_putCode c M K := by
  have s0 : ∀ (M' : MzM) (L' : MzV), A2 M' m L' → (mz_i M' (30, 0) 29).toInt = (x : Int) := fun M' L' h' => by rw [h'.1 30 29 rfl]; exact hs
  refine mo_put' h (s0 _ _ h) hx (by omega) (fun M1 h1 => mo_put' h1 (s0 _ _ h1) hx (by simp only [List.length_append, List.length_singleton]; omega) (fun M2 h2 => mo_put' h2 (s0 _ _ h2) hx (by simp only [List.length_append, List.length_singleton]; omega) (fun M3 h3 => hk M3 ?_)))
  have e : q ++ dgo c = q ++ [(48 : Int32) + (c / (100 : Int32))] ++ [(48 : Int32) + ((c / (10 : Int32)) - (c / (10 : Int32)) / (10 : Int32) * (10 : Int32))] ++ [(48 : Int32) + (c - c / (10 : Int32) * (10 : Int32))] := by
    rw [List.append_assoc, List.append_assoc]
    rfl
  rw [e]
  exact h3
theorem mo_putEnd {x : Nat} {M m : MzM} {L : MzV} {q : List Int32} {K : MzM → Prop} (h : A2 M m (lu L 45 x q)) (hs : (mz_i m (30, 0) 29).toInt = (x : Int)) (hx : x < 2) (hl : q.length + 2 ≤ 200) (hk : ∀ M', A2 M' m (lu L 45 x (q ++ [13] ++ [10])) → K M') : wp_Mo_putEnd M K := by
  have s0 : ∀ (M' : MzM) (L' : MzV), A2 M' m L' → (mz_i M' (30, 0) 29).toInt = (x : Int) := fun M' L' h' => by rw [h'.1 30 29 rfl]; exact hs
  exact mo_put' h (s0 _ _ h) hx (by omega) (fun M1 h1 => mo_put' h1 (s0 _ _ h1) hx (by simp only [List.length_append, List.length_singleton]; omega) (fun M2 h2 => hk M2 h2))
/-- the first answer's code -/
def fa (m : MzM) (c : Int32) : Int32 := if mz_i m (30, 0) 30 = 0 then c else mz_i m (30, 0) 30
theorem mo_answered {c : Int32} {M m : MzM} {L : MzV} {K : MzM → Prop} (h : A2 M m L) (hk : ∀ M', A2 M' (mz_si m (30, 0) 30 (fa m c)) L → K M') : wp_Mo_answered c M K := by
  have e := h.1 30 30 rfl
  refine ⟨fun h9 => ?_, fun h9 => ?_⟩
  · rintro _ rfl
    have e2 : fa m c = mz_i M (30, 0) 30 := by
      unfold fa
      rw [← e, if_neg h9]
    have h' := h.si (t := 30) (k := 30) (v := mz_i M (30, 0) 30) rfl
    rw [← e2] at h'
    rw [← e2]
    exact hk _ h'
  · rintro _ rfl
    have e2 : fa m c = c := by
      unfold fa
      rw [← e, if_pos h9]
    have h' := h.si (t := 30) (k := 30) (v := c) rfl
    rw [e2] at hk
    exact hk _ h'
theorem dgo_len (c : Int32) : (dgo c).length = 3 := rfl
theorem mo_answer {x : Nat} {c : Int32} {M m : MzM} {L : MzV} {K : MzM → Prop} (h : A2 M m L) (hs : (mz_i m (30, 0) 29).toInt = (x : Int)) (hx : x < 2) (hk : ∀ M', A2 M' (mz_si m (30, 0) 30 (fa m c)) (lu L 45 x (qap (L 45 x) (dgo c ++ [13] ++ [10]))) → K M') : wp_Mo_answer c M K := by
  have s0 : (mz_i (mz_si m (30, 0) 30 (fa m c)) (30, 0) 29).toInt = (x : Int) := hs
  refine mo_answered h (fun M1 h1 => mo_hasRoom (n := 5) h1 (by rw [h1.1 30 29 rfl]; exact s0) hx rfl (by decide) (fun hr => ⟨fun _ => ?_, fun h9 => absurd h9 (by decide)⟩) (fun hr => ⟨fun h9 => absurd rfl h9, fun _ => hk M1 ?_⟩))
  · have e : qap (L 45 x) (dgo c ++ [13] ++ [10]) = L 45 x ++ dgo c ++ [13] ++ [10] := by
      unfold qap
      rw [if_pos (by simp only [List.length_append, List.length_singleton, dgo_len]; omega)]
      simp only [List.append_assoc]
    rw [e] at hk
    have h1' : A2 M1 (mz_si m (30, 0) 30 (fa m c)) (lu L 45 x (L 45 x)) := by rw [lu_id]; exact h1
    exact mo_putCode h1' s0 hx (by omega) (fun M2 h2 => mo_putEnd h2 s0 hx (by simp only [List.length_append, dgo_len]; omega) (fun M3 h3 => hk M3 h3))
  · have e : qap (L 45 x) (dgo c ++ [13] ++ [10]) = L 45 x := by
      unfold qap
      rw [if_neg (by simp only [List.length_append, List.length_singleton, dgo_len]; omega)]
    rw [e, lu_id]
    exact h1
/-- the class takes the first of the replies -/
theorem pl_takeFirst {x : Nat} {M m : MzM} {L : MzV} {K : Int32 → MzM → Prop} (h : A1 M m L) (h0 : L 9 x = [] → K (-1) M) (h1 : ∀ b q M', L 9 x = b :: q → A1 M' m (lu L 9 x q) → K b M') : wp_Rep_takeFirst x M K := by
  obtain ⟨f, hf, f1, f2, f3, f4⟩ := h.2.2.2 x
  have g1 : (mz_i M (9, x) 1).toInt = (f : Int) := by rw [f1]; exact itn (by omega)
  have g2 : (mz_i M (9, x) 2).toInt = ((L 9 x).length : Int) := by rw [f2]; exact itn (by omega)
  cases hq : L 9 x with
  | nil =>
    have e : mz_i M (9, x) 2 = 0 := by rw [f2, hq]; rfl
    exact ⟨fun h9 => absurd e h9, fun _ => h0 hq⟩
  | cons b q =>
    rw [hq] at f2 f3 f4 g2
    have hne : ¬ mz_i M (9, x) 2 = 0 := fun z => by
      have z1 := (ieq (n := 0) g2 rfl).mp z
      simp only [List.length_cons] at z1
      omega
    refine ⟨fun _ => ⟨f, g1, hf, ?_⟩, fun h9 => absurd h9 hne⟩
    rintro _ rfl _ rfl
    have hb : mz_i M (10, x) f = b := by
      have z := f4 0 (by simp)
      simp only [List.getElem?_cons_zero, Nat.add_zero, Option.some.injEq] at z
      rw [z, Nat.mod_eq_of_lt hf]
    rw [hb]
    have g3 : (mz_i M (9, x) 1 + 1).toInt = ((f + 1 : Nat) : Int) := by rw [iadd (n := 1) g1 rfl (by omega) (by omega)]; omega
    have g4 := imod (c := 200) (n := 200) g3 rfl
    refine h1 b q _ hq (h.qset (g := (f + 1) % 200) (n := q.length) (Nat.mod_lt _ (by decide)) (iofn g4) rfl ?_ ?_ ?_)
    · rw [mz_ne_k (by decide)]
      exact i32_pred (v := mz_i M (9, x) 2) f2 (by simp only [List.length_cons] at f3; omega)
    · simp only [List.length_cons] at f3
      omega
    · intro j hj
      have z := f4 (j + 1) (by simp only [List.length_cons]; omega)
      rw [List.getElem?_cons_succ] at z
      rw [z]
      congr 2
      omega
theorem pl_clear {x : Nat} {M m : MzM} {L : MzV} {K : MzM → Prop} (h : A1 M m L) (hk : ∀ M', A1 M' m (lu L 9 x []) → K M') : wp_Rep_clear x M K := by
  rintro _ rfl _ rfl
  exact hk _ (h.qset (g := 0) (n := 0) (by decide) rfl rfl rfl (by decide) (fun j hj => absurd hj (by omega)))
