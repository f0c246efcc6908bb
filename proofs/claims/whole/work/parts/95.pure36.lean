/-- nothing, or a node that is there -/
def exI (m2 : MzM) (a : Int32) : Prop := a = -1 ∨ ∃ n : Nat, n < 16 ∧ mz_i m2 (32, 0) n = 1 ∧ a = Int32.ofNat n
theorem chd_ex {m1 m2 : MzM} {L1 L2 : MzV} (hN : ∀ n : Nat, n < 16 → nodeE m1 L1 m2 L2 n) (d nm : Int32) : exI m2 (chd m2 d nm) := by
  rcases chF_spec (p := fun j => decide (¬ mz_i m2 (32, 0) j = 0 ∧ mz_i m2 (34, 0) j = d ∧ mz_i m2 (35, 0) j = nm)) 15 1 with h | ⟨i, h1, h2, h3, h4⟩
  · exact Or.inl h
  · refine Or.inr ⟨i, by omega, ?_, h4⟩
    rw [decide_eq_true_iff] at h3
    exact (z01 (hN i (by omega)).1).mp h3.1
theorem up_ex {m1 m2 : MzM} {L1 L2 : MzV} (hN : ∀ n : Nat, n < 16 → nodeE m1 L1 m2 L2 n) (hr : rootE m1 m2) {a : Int32} (hd : drB m2 a = true) : ∃ n : Nat, dirE m2 n ∧ upF m2 a = Int32.ofNat n := by
  obtain ⟨n, hn, rfl⟩ := drB_iff.mp hd
  have tn : (Int32.ofNat n).toInt = (n : Int) := itn (by have := hn.1; omega)
  unfold upF
  rw [tn, show ((n : Int).toNat) = n from rfl]
  by_cases hn0 : n = 0
  · subst hn0
    rw [if_pos (show Int32.ofNat 0 = 0 from rfl)]
    exact ⟨0, hr.1, rfl⟩
  · rw [if_neg (show ¬ Int32.ofNat n = 0 from fun z => hn0 (ofN_inj (b := 0) (by have := hn.1; omega) (by decide) z))]
    obtain ⟨_, _, p, hp, e⟩ := (hN n hn.1).2.2.2.1 hn.2.1 hn0
    exact ⟨p, hp, e⟩
/-- the two memories differ in what the way along a path keeps, at most -/
def ag3 (g m : MzM) : Prop := ∀ t k : Nat, ¬ (t = 30 ∧ (k = 33 ∨ k = 34 ∨ k = 35)) → mz_i g (t, 0) k = mz_i m (t, 0) k
theorem ag3.si {g m : MzM} (h : ag3 g m) {k : Nat} {v : Int32} (hk : k = 33 ∨ k = 34 ∨ k = 35) : ag3 (mz_si g (30, 0) k v) m := by
  intro t q hq
  rw [mz_i_si, if_neg (fun z => hq ⟨congrArg Prod.fst z.1, by rw [z.2]; exact hk⟩)]
  exact h t q hq
theorem A2.norm3 {M g m : MzM} {L : MzV} (h : A2 M g L) (ha : ag3 g m) : A2 M (mz_si (mz_si (mz_si m (30, 0) 33 (mz_i g (30, 0) 33)) (30, 0) 34 (mz_i g (30, 0) 34)) (30, 0) 35 (mz_i g (30, 0) 35)) L := by
  refine ⟨fun p q hpq => ?_, h.2⟩
  rw [h.1 p q hpq, mz_i_si, mz_i_si, mz_i_si]
  by_cases z1 : (p, 0) = (30, 0) ∧ q = 35
  · rw [if_pos z1, z1.1, z1.2]
  · rw [if_neg z1]
    by_cases z2 : (p, 0) = (30, 0) ∧ q = 34
    · rw [if_pos z2, z2.1, z2.2]
    · rw [if_neg z2]
      by_cases z3 : (p, 0) = (30, 0) ∧ q = 33
      · rw [if_pos z3, z3.1, z3.2]
      · rw [if_neg z3]
        refine ha p q ?_
        rintro ⟨rfl, w⟩
        rcases w with w | w | w
        · exact z3 ⟨rfl, w⟩
        · exact z2 ⟨rfl, w⟩
        · exact z1 ⟨rfl, w⟩
theorem sg_ne {l : List Int32} {f p : Nat} {ss : List Int32} (h : sg l f p = some ss) : ss ≠ [] := by
  cases f with
  | zero => cases h
  | succ f =>
    have eS : sg l (f + 1) p = if p < se l p ∧ (se l p = l.length ∨ (chv l (se l p) = 47 ∧ se l p + 1 < l.length)) then (if se l p < l.length then (sg l f (se l p + 1)).map (fun ss => sv l p :: ss) else some [sv l p]) else none := rfl
    rw [eS] at h
    split at h
    · split at h
      · cases hs : sg l f (se l p + 1) with
        | none =>
          rw [hs] at h
          cases h
        | some s' =>
          rw [hs] at h
          have e := Option.some.inj h
          rw [← e]
          simp
      · have e := Option.some.inj h
        rw [← e]
        simp
    · cases h
theorem sg_step {l : List Int32} {f p : Nat} {ss : List Int32} (h : sg l f p = some ss) : ∃ f', f = f' + 1 ∧ p < se l p ∧ ((se l p = l.length ∧ ss = [sv l p]) ∨ (se l p + 1 < l.length ∧ chv l (se l p) = 47 ∧ ∃ ss', ss = sv l p :: ss' ∧ ss' ≠ [] ∧ sg l f' (se l p + 1) = some ss')) := by
  cases f with
  | zero => cases h
  | succ f =>
    refine ⟨f, rfl, ?_⟩
    have eS : sg l (f + 1) p = if p < se l p ∧ (se l p = l.length ∨ (chv l (se l p) = 47 ∧ se l p + 1 < l.length)) then (if se l p < l.length then (sg l f (se l p + 1)).map (fun ss => sv l p :: ss) else some [sv l p]) else none := rfl
    rw [eS] at h
    by_cases hc : p < se l p ∧ (se l p = l.length ∨ (chv l (se l p) = 47 ∧ se l p + 1 < l.length))
    · rw [if_pos hc] at h
      refine ⟨hc.1, ?_⟩
      by_cases hl : se l p < l.length
      · rw [if_pos hl] at h
        rcases hc.2 with q | q
        · omega
        · refine Or.inr ⟨q.2, q.1, ?_⟩
          cases hs : sg l f (se l p + 1) with
          | none =>
            rw [hs] at h
            cases h
          | some ss' =>
            rw [hs] at h
            refine ⟨ss', (Option.some.inj h).symm, ?_, rfl⟩
            rintro rfl
            exact sg_ne hs rfl
      · rw [if_neg hl] at h
        rcases hc.2 with q | q
        · exact Or.inl ⟨q, (Option.some.inj h).symm⟩
        · omega
    · rw [if_neg hc] at h
      cases h
