/-- from where a path goes -/
def stI (m1 : MzM) (x : Nat) : Int32 := if mz_i m1 (14, x) 2 = 0 then mz_i m1 (6, 0) x else 0
theorem pl_follow {x k : Nat} {a3 : Int32} {M m1 m2 : MzM} {L L1 L2 : MzV} {K : Int32 → MzM → Prop} (h : A1 M m1 L) (hN : ∀ n : Nat, n < 16 → nodeE m1 L1 m2 L2 n) (hr : rootE m1 m2) (hy : a3.toInt = (k : Int) ∨ (a3 = -1 ∧ k = 0)) (hk : k ≤ (L 15 x).length) (hK : K (wlk m2 (stI m1 x) ((L 15 x).take k)) M) : wp_Store_follow x (mz_i m1 (6, 0) x) a3 M K := by
  obtain ⟨e1, e2, e3⟩ := h.2.2.1 15 14 1 30 x rfl
  have t12 : ∀ a : Int32, a = stI m1 x → wp_Store_follow_12 x K a3 a M := by
    rintro a rfl
    rcases hy with hy | ⟨hy, hk0⟩
    · have hl : ((L 15 x).take k).length = k := by rw [List.length_take]; omega
      refine ⟨((L 15 x).take k).length + 1, pl_follow_loop h hN hr hy hk ((L 15 x).take k) 0 _ (by rw [hl]; omega) (fun j hj => ?_) hK⟩
      rw [hl] at hj
      rw [List.getElem?_take_of_lt hj, Nat.zero_add]
    · subst hk0
      rw [List.take_zero] at hK
      refine ⟨1, fun _ => hK, fun q => absurd ?_ q⟩
      rw [hy]
      decide
  have f2 := h.1 (14, x) 2 rfl
  unfold wp_Store_follow
  rw [f2]
  refine ⟨fun z => t12 _ ?_, fun z => t12 _ ?_⟩
  · unfold stI
    rw [if_pos z]
  · unfold stI
    rw [if_neg z]
/-- the last step of a path, 0 for none -/
def lsI (ss : List Int32) : Int32 := ss.getLastD 0
theorem pl_newName {x : Nat} {M m : MzM} {L : MzV} {K : Int32 → MzM → Prop} (h : A1 M m L) (hk : K (lsI (L 15 x)) M) : wp_Path_newName x M K := by
  obtain ⟨e1, e2, e3⟩ := h.2.2.1 15 14 1 30 x rfl
  have tc : (mz_i M (14, x) 1).toInt = ((L 15 x).length : Int) := by rw [e1]; exact itn (by omega)
  refine ⟨fun q => ?_, fun q => ⟨fun q2 => absurd ((ilt (m := 30) rfl tc).mp q2) (by omega), fun _ => ?_⟩⟩
  · have q1 := (ile (n := 0) tc rfl).mp q
    have e0 : L 15 x = [] := List.eq_nil_of_length_eq_zero (by omega)
    unfold lsI at hk
    rw [e0] at hk
    exact hk
  · have q1 : ¬ ((L 15 x).length : Int) ≤ 0 := fun z => q ((ile (n := 0) tc rfl).mpr z)
    have tm : (mz_i M (14, x) 1 - 1).toInt = (((L 15 x).length - 1 : Nat) : Int) := by rw [isub (n := 1) tc rfl (by omega) (by omega)]; omega
    refine ⟨(L 15 x).length - 1, tm, by omega, ?_⟩
    have q := e3 ((L 15 x).length - 1) (by omega)
    have el : lsI (L 15 x) = mz_i M (15, x) ((L 15 x).length - 1) := by
      unfold lsI
      rw [List.getLastD_eq_getLast?, List.getLast?_eq_getElem?, q]
      rfl
    rw [← el]
    exact hk
/-- what the class finds a path to lead to, and where something new can be made -/
theorem pl_locate {x : Nat} {M m1 m2 : MzM} {L L1 L2 : MzV} {K : MzM → Prop} (h : A1 M m1 L) (hx : x < 2) (hme : mz_i m1 (8, x) 0 = Int32.ofNat x) (hN : ∀ n : Nat, n < 16 → nodeE m1 L1 m2 L2 n) (hr : rootE m1 m2) (hd : drB m2 (stI m1 x) = true) (hk : ∀ M', A1 M' (mz_si (mz_si m1 (8, x) 12 (wlk m2 (stI m1 x) (L 15 x))) (8, x) 13 (plc m2 (stI m1 x) (L 15 x))) L → K M') : wp_Ses_locate x M K := by
  obtain ⟨e1, e2, e3⟩ := h.2.2.1 15 14 1 30 x rfl
  have tc : (mz_i M (14, x) 1).toInt = ((L 15 x).length : Int) := by rw [e1]; exact itn (by omega)
  have tx : (mz_i M (8, x) 0).toInt = (x : Int) := by rw [h.1 (8, x) 0 rfl, hme]; exact itn (by omega)
  refine ⟨x, tx, hx, ?_⟩
  rw [h.1 (6, 0) x rfl]
  refine pl_follow h hN hr (Or.inl tc) (Nat.le_refl _) ?_
  rw [List.take_length]
  rintro _ rfl
  have h1 := h.si (o := (8, x)) (k := 12) (v := wlk m2 (stI m1 x) (L 15 x)) rfl
  have f91 : ∀ (N : MzM) (y : Int32), A1 N (mz_si m1 (8, x) 12 (wlk m2 (stI m1 x) (L 15 x))) L → plc m2 (stI m1 x) (L 15 x) = -1 → wp_Ses_locate_91 x K y N := by
    intro N y hN' hp
    refine ⟨fun _ => ?_, fun h9 => absurd rfl h9⟩
    rintro _ rfl
    rw [hp] at hk
    exact hk _ (hN'.si (o := (8, x)) (k := 13) (v := -1) rfl)
  have ta : (mz_i (mz_si M (8, x) 12 (wlk m2 (stI m1 x) (L 15 x))) (14, x) 1 - 1).toInt = (((L 15 x).length - 1 : Nat) : Int) ∨ (mz_i (mz_si M (8, x) 12 (wlk m2 (stI m1 x) (L 15 x))) (14, x) 1 - 1 = -1 ∧ (L 15 x).length - 1 = 0) := by
    have tc' : (mz_i (mz_si M (8, x) 12 (wlk m2 (stI m1 x) (L 15 x))) (14, x) 1).toInt = ((L 15 x).length : Int) := tc
    have ts := isub (b := 1) (n := 1) tc' rfl (by omega) (by omega)
    by_cases h0 : (L 15 x).length = 0
    · refine Or.inr ⟨Int32.toInt_inj.mp ?_, by omega⟩
      rw [ts, h0]
      rfl
    · refine Or.inl ?_
      rw [ts]
      omega
  rw [show mz_i m1 (6, 0) x = mz_i (mz_si m1 (8, x) 12 (wlk m2 (stI m1 x) (L 15 x))) (6, 0) x from rfl]
  refine pl_follow (x := x) (k := (L 15 x).length - 1) h1 (m2 := m2) (L1 := L1) (L2 := L2) (fun n hn => hN n hn) hr ta (by omega) ?_
  have es : stI (mz_si m1 (8, x) 12 (wlk m2 (stI m1 x) (L 15 x))) x = stI m1 x := rfl
  rw [es, ← List.dropLast_eq_take]
  have e12 : mz_i (mz_si M (8, x) 12 (wlk m2 (stI m1 x) (L 15 x))) (8, x) 12 = wlk m2 (stI m1 x) (L 15 x) := by rw [mz_i_si, if_pos ⟨rfl, rfl⟩]
  by_cases hss : L 15 x = []
  · have hp : plc m2 (stI m1 x) (L 15 x) = -1 := by rw [hss]; rfl
    have hw : wlk m2 (stI m1 x) (L 15 x) = stI m1 x := by rw [hss]; rfl
    refine ⟨fun _ => f91 _ _ h1 hp, fun z => ?_⟩
    rw [e12, hw] at z
    rw [z, drB_neg] at hd
    exact absurd hd (by decide)
  · have hp := plc_class m2 (L 15 x) (stI m1 x) hss
    refine ⟨fun z => f91 _ _ h1 ?_, fun z => pl_newName h1 ⟨fun z2 => f91 _ _ h1 ?_, fun z2 => pl_isDirectory h1 (m2 := m2) (L1 := L1) (L2 := L2) (fun n hn => hN n hn) (fun z3 => ⟨fun h9 => absurd h9 (by decide), fun _ => ⟨fun h9 => absurd h9 (by decide), fun _ => ?_⟩⟩) (fun z3 => ⟨fun _ => f91 _ _ h1 ?_, fun h9 => absurd rfl h9⟩)⟩⟩
    · rw [e12] at z
      rw [hp, if_neg (fun w => z w.1)]
    · rw [hp, if_neg (fun w => w.2.1 z2)]
    · rw [e12] at z
      rintro _ rfl
      rw [if_pos ⟨z, z2, z3⟩] at hp
      rw [hp] at hk
      exact hk _ (h1.si (o := (8, x)) (k := 13) rfl)
    · rw [hp, if_neg]
      rintro ⟨_, _, w⟩
      rw [z3] at w
      exact absurd w (by decide)
