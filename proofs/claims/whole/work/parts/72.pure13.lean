theorem nneg {n : Nat} (hn : n < 16) : ¬ (-1 : Int32) = Int32.ofNat n := fun z => by
  have q := (ieq (m := -1) rfl (itn (n := n) (by omega))).mp z
  omega
theorem ofN_inj {a b : Nat} (ha : a < 2147483648) (hb : b < 2147483648) (h : Int32.ofNat a = Int32.ofNat b) : a = b := by
  have q := (ieq (itn ha) (itn hb)).mp h
  omega
/-- x is a session and y the other -/
def xyE (x y : Nat) : Prop := (x = 0 ∧ y = 1) ∨ (x = 1 ∧ y = 0)
theorem rd_sum {x y : Nat} (h : xyE x y) (m : MzM) (n : Nat) : rdE m 0 n + rdE m 1 n = rdE m x n + rdE m y n := by
  rcases h with ⟨rfl, rfl⟩ | ⟨rfl, rfl⟩
  · rfl
  · exact Nat.add_comm _ _
theorem mv_or {x y : Nat} (h : xyE x y) (m : MzM) (n : Nat) : (mvE m 0 n 2 ∨ mvE m 1 n 2) ↔ (mvE m x n 2 ∨ mvE m y n 2) := by
  rcases h with ⟨rfl, rfl⟩ | ⟨rfl, rfl⟩
  · exact Iff.rfl
  · exact Or.comm
theorem rd_same {m m' : MzM} {y : Nat} (ry : mz_i m' (53, 0) y = mz_i m (53, 0) y) (fy : mz_i m' (54, 0) y = mz_i m (54, 0) y) (n : Nat) : rdE m' y n = rdE m y n := by
  unfold rdE
  rw [ry, fy]
theorem mv_same {m m' : MzM} {y : Nat} (ry : mz_i m' (53, 0) y = mz_i m (53, 0) y) (fy : mz_i m' (54, 0) y = mz_i m (54, 0) y) (n : Nat) (w : Int32) : mvE m' y n w ↔ mvE m y n w := by
  unfold mvE
  rw [ry, fy]
theorem rd_zero {m : MzM} {x : Nat} {w : Int32} (r0 : mz_i m (53, 0) x = w) (hw : ¬ w = 1) (n : Nat) : rdE m x n = 0 := by
  unfold rdE
  rw [if_neg]
  rintro ⟨z, _⟩
  exact hw (r0.symm.trans z)
theorem mv_zero {m : MzM} {x : Nat} {w v : Int32} (r0 : mz_i m (53, 0) x = w) (hw : ¬ w = v) (n : Nat) : ¬ mvE m x n v := fun z => hw (r0.symm.trans z.1)
theorem nodeE_congr {m1 m1' m2 m2' : MzM} {L1 L1' L2 L2' : MzV} {n : Nat} (k1 : mz_i m1' (3, n) 1 = mz_i m1 (3, n) 1) (k2 : mz_i m1' (3, n) 2 = mz_i m1 (3, n) 2) (k3 : mz_i m1' (3, n) 3 = mz_i m1 (3, n) 3) (k6 : mz_i m1' (3, n) 6 = mz_i m1 (3, n) 6) (e32 : mz_i m2' (32, 0) = mz_i m2 (32, 0)) (e33 : mz_i m2' (33, 0) = mz_i m2 (33, 0)) (e34 : mz_i m2' (34, 0) = mz_i m2 (34, 0)) (e35 : mz_i m2' (35, 0) = mz_i m2 (35, 0)) (e37 : mz_i m2' (37, 0) = mz_i m2 (37, 0)) (l1 : L1' 5 n = L1 5 n) (l2 : L2' 38 n = L2 38 n) (h : nodeE m1 L1 m2 L2 n) : nodeE m1' L1' m2' L2' n := by
  unfold nodeE filE dirE at *
  rw [k1, k2, k3, k6, e32, e33, e34, e35, e37, l1, l2]
  exact h
theorem bus_end {x y : Nat} {m1' m2 m2' : MzM} (hxy : xyE x y) (r0 : mz_i m2' (53, 0) x = 0) (ry : mz_i m2' (53, 0) y = mz_i m2 (53, 0) y) (fy : mz_i m2' (54, 0) y = mz_i m2 (54, 0) y) (h4 : ∀ n : Nat, n < 16 → mz_i m1' (3, n) 4 = Int32.ofNat (rdE m2 y n)) (h5 : ∀ n : Nat, n < 16 → (mz_i m1' (3, n) 5 = 0 ∨ mz_i m1' (3, n) 5 = 1) ∧ (mz_i m1' (3, n) 5 = 1 ↔ mvE m2 y n 2)) (h6 : ∀ n : Nat, n < 16 → mz_i m1' (3, n) 5 = 1 → ¬ mz_i m1' (3, n) 6 = 0) : busE m1' m2' := by
  intro n hn
  refine ⟨?_, (h5 n hn).1, ?_, h6 n hn⟩
  · rw [rd_sum hxy, rd_zero r0 (by decide), rd_same ry fy, Nat.zero_add]
    exact h4 n hn
  · rw [mv_or hxy, mv_same ry fy, (h5 n hn).2]
    exact ⟨fun z => Or.inr z, fun z => z.elim (fun z => absurd z (mv_zero r0 (by decide) n)) id⟩
theorem ex_end {x y : Nat} {m2' : MzM} (hxy : xyE x y) (r0 : mz_i m2' (53, 0) x = 0) : exE m2' := by
  intro n hn
  have z1 := mv_zero (v := 1) r0 (by decide) n
  have z2 := mv_zero (v := 2) r0 (by decide) n
  rcases hxy with ⟨rfl, rfl⟩ | ⟨rfl, rfl⟩
  · exact ⟨fun z => z2 z.1, fun z => z1 z.2⟩
  · exact ⟨fun z => z.2.elim z1 z2, fun z => z2 z.1⟩
theorem bus_none {x y : Nat} {m1 m1' m2 m2' : MzM} (hxy : xyE x y) (hb : busE m1 m2) (hf : mz_i m2 (54, 0) x = -1) (r0 : mz_i m2' (53, 0) x = 0) (ry : mz_i m2' (53, 0) y = mz_i m2 (53, 0) y) (fy : mz_i m2' (54, 0) y = mz_i m2 (54, 0) y) (s4 : ∀ n, mz_i m1' (3, n) 4 = mz_i m1 (3, n) 4) (s5 : ∀ n, mz_i m1' (3, n) 5 = mz_i m1 (3, n) 5) (s6 : ∀ n, mz_i m1' (3, n) 6 = mz_i m1 (3, n) 6) : busE m1' m2' := by
  have nr : ∀ n, n < 16 → rdE m2 x n = 0 := by
    intro n hn
    unfold rdE
    rw [if_neg]
    rintro ⟨_, z⟩
    rw [hf] at z
    exact nneg hn z
  have nm : ∀ n, n < 16 → ¬ mvE m2 x n 2 := by
    rintro n hn ⟨_, z⟩
    rw [hf] at z
    exact nneg hn z
  refine bus_end hxy r0 ry fy (fun n hn => ?_) (fun n hn => ?_) (fun n hn => ?_)
  · rw [s4, (hb n hn).1, rd_sum hxy, nr n hn, Nat.zero_add]
  · rw [s5]
    refine ⟨(hb n hn).2.1, ?_⟩
    rw [(hb n hn).2.2.1, mv_or hxy]
    exact ⟨fun z => z.elim (fun z => absurd z (nm n hn)) id, fun z => Or.inr z⟩
  · rw [s5, s6]
    exact (hb n hn).2.2.2
theorem bus_send {x y k : Nat} {m1 m1' m2 m2' : MzM} (hxy : xyE x y) (hb : busE m1 m2) (hk : k < 16) (hr : mz_i m2 (53, 0) x = 1) (hf : mz_i m2 (54, 0) x = Int32.ofNat k) (r0 : mz_i m2' (53, 0) x = 0) (ry : mz_i m2' (53, 0) y = mz_i m2 (53, 0) y) (fy : mz_i m2' (54, 0) y = mz_i m2 (54, 0) y) (s4 : ∀ n, mz_i m1' (3, n) 4 = mz_i (mz_si m1 (3, k) 4 (mz_i m1 (3, k) 4 - 1)) (3, n) 4) (s5 : ∀ n, mz_i m1' (3, n) 5 = mz_i m1 (3, n) 5) (s6 : ∀ n, mz_i m1' (3, n) 6 = mz_i m1 (3, n) 6) : busE m1' m2' := by
  refine bus_end hxy r0 ry fy (fun n hn => ?_) (fun n hn => ?_) (fun n hn => ?_)
  · rw [s4, mz_i_si]
    by_cases hnk : n = k
    · subst hnk
      have e1 : rdE m2 x n = 1 := by unfold rdE; rw [if_pos ⟨hr, hf⟩]
      have e2 := (hb n hn).1
      rw [rd_sum hxy, e1, Nat.add_comm] at e2
      have e3 : rdE m2 y n ≤ 1 := by unfold rdE; split <;> omega
      rw [if_pos ⟨rfl, rfl⟩]
      exact i32_pred e2 (by omega)
    · have e1 : rdE m2 x n = 0 := by
        unfold rdE
        rw [if_neg]
        rintro ⟨_, z⟩
        rw [hf] at z
        exact hnk (ofN_inj (by omega) (by omega) z).symm
      rw [if_neg (fun z => hnk (congrArg Prod.snd z.1)), (hb n hn).1, rd_sum hxy, e1, Nat.zero_add]
  · rw [s5]
    refine ⟨(hb n hn).2.1, ?_⟩
    rw [(hb n hn).2.2.1, mv_or hxy]
    exact ⟨fun z => z.elim (fun z => absurd z (mv_zero hr (by decide) n)) id, fun z => Or.inr z⟩
  · rw [s5, s6]
    exact (hb n hn).2.2.2
theorem bus_recv {x y k : Nat} {m1 m1' m2 m2' : MzM} (hxy : xyE x y) (hb : busE m1 m2) (he : exE m2) (hk : k < 16) (hr : mz_i m2 (53, 0) x = 2) (hf : mz_i m2 (54, 0) x = Int32.ofNat k) (r0 : mz_i m2' (53, 0) x = 0) (ry : mz_i m2' (53, 0) y = mz_i m2 (53, 0) y) (fy : mz_i m2' (54, 0) y = mz_i m2 (54, 0) y) (s4 : ∀ n, mz_i m1' (3, n) 4 = mz_i m1 (3, n) 4) (s5 : ∀ n, mz_i m1' (3, n) 5 = mz_i (mz_si m1 (3, k) 5 0) (3, n) 5) (s6 : ∀ n, ¬ n = k → mz_i m1' (3, n) 6 = mz_i m1 (3, n) 6) : busE m1' m2' := by
  have no : ¬ mvE m2 y k 2 := by
    intro z
    have q := he k hk
    rcases hxy with ⟨rfl, rfl⟩ | ⟨rfl, rfl⟩
    · exact q.1 ⟨⟨hr, hf⟩, Or.inr z⟩
    · exact q.1 ⟨z, Or.inr ⟨hr, hf⟩⟩
  have e5 : ∀ n, mz_i m1' (3, n) 5 = if n = k then 0 else mz_i m1 (3, n) 5 := by
    intro n
    rw [s5, mz_i_si]
    by_cases hnk : n = k
    · subst hnk
      rw [if_pos ⟨rfl, rfl⟩, if_pos rfl]
    · rw [if_neg (fun z => hnk (congrArg Prod.snd z.1)), if_neg hnk]
  refine bus_end hxy r0 ry fy (fun n hn => ?_) (fun n hn => ?_) (fun n hn => ?_)
  · rw [s4, (hb n hn).1, rd_sum hxy, rd_zero hr (by decide), Nat.zero_add]
  · rw [e5]
    by_cases hnk : n = k
    · subst hnk
      rw [if_pos rfl]
      exact ⟨Or.inl rfl, fun z => absurd z (by decide), fun z => absurd z no⟩
    · rw [if_neg hnk]
      refine ⟨(hb n hn).2.1, ?_⟩
      rw [(hb n hn).2.2.1, mv_or hxy]
      refine ⟨fun z => z.elim (fun z => ?_) id, fun z => Or.inr z⟩
      have z2 := z.2
      rw [hf] at z2
      exact absurd (ofN_inj (by omega) (by omega) z2).symm hnk
  · rw [e5]
    by_cases hnk : n = k
    · rw [if_pos hnk]
      exact fun z => absurd z (by decide)
    · rw [if_neg hnk, s6 n hnk]
      exact (hb n hn).2.2.2
