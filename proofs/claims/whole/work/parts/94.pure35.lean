/-- from where a path goes -/
def stI (m1 : MzM) (x : Nat) : Int32 := if mz_i m1 (14, x) 2 = 0 then mz_i m1 (6, 0) x else 0
theorem pl_follow {x k : Nat} {a3 : Int32} {M m1 m2 : MzM} {L L1 L2 : MzV} {K : Int32 → MzM → Prop} (h : A1 M m1 L) (hN : ∀ n : Nat, n < 16 → nodeE m1 L1 m2 L2 n) (hr : rootE m1 m2) (hy : a3.toInt = (k : Int) ∨ (a3 = -1 ∧ k = 0)) (hk : k ≤ (L 15 x).length) (hK : K (wlk m2 (stI m1 x) ((L 15 x).take k)) M) : wp_Store_follow x (mz_i m1 (6, 0) x) a3 M K := by
  obtain ⟨e1, e2, e3⟩ := h.2.2.1 15 14 1 30 x rfl
  have t12 : ∀ a : Int32, a = stI m1 x → wp_Store_follow_12 x K a3 a M := by
    rintro a rfl
    rcases hy with hy | ⟨hy, hk0⟩
    · have hl : ((L 15 x).take k).length = k := by rw [List.length_take]; omega
      refine ⟨((L 15 x).take k).length + 1, pl_follow_loop h hN hr hy hk ((L 15 x).take k) 0 _ (by rw [hl]; omega) (fun j hj => ?_) hK⟩
      rw [hl] at hj
      rw [List.getElem?_take_of_lt hj, Nat.zero_add]
    · subst hk0
      rw [List.take_zero] at hK
      refine ⟨1, fun _ => hK, fun q => absurd ?_ q⟩
      rw [hy]
      decide
  have f2 := h.1 (14, x) 2 rfl
  unfold wp_Store_follow
  rw [f2]
  refine ⟨fun z => t12 _ ?_, fun z => t12 _ ?_⟩
  · unfold stI
    rw [if_pos z]
  · unfold stI
    rw [if_neg z]
/-- the last step of a path, 0 for none -/
def lsI (ss : List Int32) : Int32 := ss.getLastD 0
theorem pl_newName {x : Nat} {M m : MzM} {L : MzV} {K : Int32 → MzM → Prop} (h : A1 M m L) (hk : K (lsI (L 15 x)) M) : wp_Path_newName x M K := by
  obtain ⟨e1, e2, e3⟩ := h.2.2.1 15 14 1 30 x rfl
  have tc : (mz_i M (14, x) 1).toInt = ((L 15 x).length : Int) := by rw [e1]; exact itn (by omega)
  refine ⟨fun q => ?_, fun q => ⟨fun q2 => absurd ((ilt (m := 30) rfl tc).mp q2) (by omega), fun _ => ?_⟩⟩
  · have q1 := (ile (n := 0) tc rfl).mp q
    have e0 : L 15 x = [] := List.eq_nil_of_length_eq_zero (by omega)
    unfold lsI at hk
    rw [e0] at hk
    exact hk
  · have q1 : ¬ ((L 15 x).length : Int) ≤ 0 := fun z => q ((ile (n := 0) tc rfl).mpr z)
    have tm : (mz_i M (14, x) 1 - 1).toInt = (((L 15 x).length - 1 : Nat) : Int) := by rw [isub (n := 1) tc rfl (by omega) (by omega)]; omega
    refine ⟨(L 15 x).length - 1, tm, by omega, ?_⟩
    have q := e3 ((L 15 x).length - 1) (by omega)
    have el : lsI (L 15 x) = mz_i M (15, x) ((L 15 x).length - 1) := by
      unfold lsI
      rw [List.getLastD_eq_getLast?, List.getLast?_eq_getElem?, q]
      rfl
    rw [← el]
    exact hk
/-- what the class finds a path to lead to, and where something new can be made -/
theorem pl_locate {x : Nat} {M m1 m2 : MzM} {L L1 L2 : MzV} {K : MzM → Prop} (h : A1 M m1 L) (hx : x < 2) (hme : mz_i m1 (8, x) 0 = Int32.ofNat x) (hN : ∀ n : Nat, n < 16 → nodeE m1 L1 m2 L2 n) (hr : rootE m1 m2) (hk : ∀ M', A1 M' (mz_si (mz_si m1 (8, x) 12 (wlk m2 (stI m1 x) (L 15 x))) (8, x) 13 (plc m2 (stI m1 x) (L 15 x))) L → (L 15 x = [] → drB m2 (stI m1 x) = true → K M') → K M') (hd : drB m2 (stI m1 x) = true) : wp_Ses_locate x M K := by
  sorry
