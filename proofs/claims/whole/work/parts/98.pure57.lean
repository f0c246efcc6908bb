/-! making a node -/
def mk1 (m1 : MzM) (n : Nat) (kd pl nm : Int32) : MzM := mz_si (mz_si (mz_si (mz_si m1 (3, n) 1 kd) (3, n) 2 pl) (3, n) 3 nm) (3, n) 6 0
def mk2 (m2 : MzM) (n : Nat) (fl pl nm sr : Int32) : MzM := mz_si (mz_si (mz_si (mz_si (mz_si m2 (32, 0) n 1) (33, 0) n fl) (34, 0) n pl) (35, 0) n nm) (37, 0) n sr
theorem mk1_n (m1 : MzM) (n : Nat) (kd pl nm : Int32) : mz_i (mk1 m1 n kd pl nm) (3, n) 1 = kd ∧ mz_i (mk1 m1 n kd pl nm) (3, n) 2 = pl ∧ mz_i (mk1 m1 n kd pl nm) (3, n) 3 = nm ∧ mz_i (mk1 m1 n kd pl nm) (3, n) 6 = 0 := by
  unfold mk1
  refine ⟨?_, ?_, ?_, ?_⟩
  · rw [mz_ne_k (by decide), mz_ne_k (by decide), mz_ne_k (by decide), mz_i_si, if_pos ⟨rfl, rfl⟩]
  · rw [mz_ne_k (by decide), mz_ne_k (by decide), mz_i_si, if_pos ⟨rfl, rfl⟩]
  · rw [mz_ne_k (by decide), mz_i_si, if_pos ⟨rfl, rfl⟩]
  · rw [mz_i_si, if_pos ⟨rfl, rfl⟩]
theorem mk1_o (m1 : MzM) {n i : Nat} (kd pl nm : Int32) (h : ¬ i = n) (q : Nat) : mz_i (mk1 m1 n kd pl nm) (3, i) q = mz_i m1 (3, i) q := by
  unfold mk1
  have z : ∀ (a b : Nat), ¬ ((3, i) = (3, n) ∧ a = b) := fun a b z => h (congrArg Prod.snd z.1)
  rw [mz_i_si, if_neg (z _ _), mz_i_si, if_neg (z _ _), mz_i_si, if_neg (z _ _), mz_i_si, if_neg (z _ _)]
theorem mk1_k (m1 : MzM) (n i : Nat) (kd pl nm : Int32) {q : Nat} (h1 : ¬ q = 1) (h2 : ¬ q = 2) (h3 : ¬ q = 3) (h6 : ¬ q = 6) : mz_i (mk1 m1 n kd pl nm) (3, i) q = mz_i m1 (3, i) q := by
  unfold mk1
  rw [mz_ne_k h6, mz_ne_k h3, mz_ne_k h2, mz_ne_k h1]
theorem mk2_n (m2 : MzM) (n : Nat) (fl pl nm sr : Int32) : mz_i (mk2 m2 n fl pl nm sr) (32, 0) n = 1 ∧ mz_i (mk2 m2 n fl pl nm sr) (33, 0) n = fl ∧ mz_i (mk2 m2 n fl pl nm sr) (34, 0) n = pl ∧ mz_i (mk2 m2 n fl pl nm sr) (35, 0) n = nm ∧ mz_i (mk2 m2 n fl pl nm sr) (37, 0) n = sr := by
  refine ⟨?_, ?_, ?_, ?_, ?_⟩
  · show mz_i (mz_si m2 (32, 0) n 1) (32, 0) n = 1
    rw [mz_i_si, if_pos ⟨rfl, rfl⟩]
  · show mz_i (mz_si (mz_si m2 (32, 0) n 1) (33, 0) n fl) (33, 0) n = fl
    rw [mz_i_si, if_pos ⟨rfl, rfl⟩]
  · show mz_i (mz_si (mz_si (mz_si m2 (32, 0) n 1) (33, 0) n fl) (34, 0) n pl) (34, 0) n = pl
    rw [mz_i_si, if_pos ⟨rfl, rfl⟩]
  · show mz_i (mz_si (mz_si (mz_si (mz_si m2 (32, 0) n 1) (33, 0) n fl) (34, 0) n pl) (35, 0) n nm) (35, 0) n = nm
    rw [mz_i_si, if_pos ⟨rfl, rfl⟩]
  · show mz_i (mz_si (mz_si (mz_si (mz_si (mz_si m2 (32, 0) n 1) (33, 0) n fl) (34, 0) n pl) (35, 0) n nm) (37, 0) n sr) (37, 0) n = sr
    rw [mz_i_si, if_pos ⟨rfl, rfl⟩]
theorem mk2_o (m2 : MzM) {n i : Nat} (fl pl nm sr : Int32) (h : ¬ i = n) (t : Nat) : mz_i (mk2 m2 n fl pl nm sr) (t, 0) i = mz_i m2 (t, 0) i := by
  unfold mk2
  rw [mz_ne_k h, mz_ne_k h, mz_ne_k h, mz_ne_k h, mz_ne_k h]
theorem dirE_mk {m2 : MzM} {n k : Nat} {fl pl nm sr : Int32} (h : dirE m2 k) (hn : ¬ k = n) : dirE (mk2 m2 n fl pl nm sr) k := by
  refine ⟨h.1, ?_, ?_⟩
  · rw [mk2_o m2 fl pl nm sr hn]
    exact h.2.1
  · rw [mk2_o m2 fl pl nm sr hn]
    exact h.2.2
theorem filE_mk {m2 : MzM} {n k : Nat} {fl pl nm sr : Int32} (h : filE m2 k) (hn : ¬ k = n) : filE (mk2 m2 n fl pl nm sr) k := by
  refine ⟨h.1, ?_, ?_⟩
  · rw [mk2_o m2 fl pl nm sr hn]
    exact h.2.1
  · rw [mk2_o m2 fl pl nm sr hn]
    exact h.2.2
theorem filE_mk' {m2 : MzM} {n k : Nat} {fl pl nm sr : Int32} (h : filE (mk2 m2 n fl pl nm sr) k) (hn : ¬ k = n) : filE m2 k := by
  obtain ⟨h1, h2, h3⟩ := h
  rw [mk2_o m2 fl pl nm sr hn] at h2 h3
  exact ⟨h1, h2, h3⟩
theorem sesE_mk {m1 m2 : MzM} {L1 L2 : MzV} {x n : Nat} {kd fl pl nm sr : Int32} (h : sesE m1 L1 m2 L2 x) (hn : mz_i m2 (32, 0) n = 0) : sesE (mk1 m1 n kd pl nm) (lu L1 5 n []) (mk2 m2 n fl pl nm sr) (lu L2 38 n []) x := by
  have hd : ∀ k : Nat, dirE m2 k → ¬ k = n := fun k hk e => absurd (hn.symm.trans (e ▸ hk.2.1)) (by decide)
  have hf : ∀ k : Nat, filE m2 k → ¬ k = n := fun k hk e => absurd (hn.symm.trans (e ▸ hk.2.1)) (by decide)
  obtain ⟨s1, s2, s3, s4, s5, s6, s7, s8, s9, s10, s11, s12, s13, s14, s15, s16⟩ := h
  refine ⟨s1, s2, s3, s4, s5, s6, s7, s8, s9, s10, ⟨s11.1, ?_⟩, s12, s13, s14, s15, ?_⟩
  · rcases s11.2 with q | ⟨q, k, hk, e⟩
    · exact Or.inl q
    · exact Or.inr ⟨q, k, dirE_mk hk (hd k hk), e⟩
  · rcases s16 with t | ⟨t1, t2, t3, t4, t5⟩ | ⟨t1, t2, t2', t3, t4, k, t6, t7, t8⟩
    · exact Or.inl t
    · refine Or.inr (Or.inl ⟨t1, t2, t3, t4, ?_⟩)
      rcases t5 with t5 | ⟨k, t6, t7, t8⟩
      · exact Or.inl t5
      · exact Or.inr ⟨k, filE_mk t6 (hf k t6), t7, t8⟩
    · exact Or.inr (Or.inr ⟨t1, t2, t2', t3, t4, k, filE_mk t6 (hf k t6), t7, t8⟩)
theorem mv_fil {m1 m2 : MzM} {L1 L2 : MzV} (hE : EE m1 L1 m2 L2) {n x : Nat} (hx : x < 2) (hn : n < 16) (h : mz_i m2 (54, 0) x = Int32.ofNat n) : filE m2 n := by
  have key : ∀ n' : Nat, filE m2 n' → mz_i m2 (54, 0) x = Int32.ofNat n' → filE m2 n := by
    intro n' hf e
    have en := ofN_inj (by omega) (by have := hf.1; omega) (h.symm.trans e)
    rw [en]
    exact hf
  obtain ⟨_, _, _, _, _, _, _, _, _, _, _, _, _, _, _, s16⟩ := hE.ses hx
  rcases s16 with t | ⟨_, _, _, _, t⟩ | ⟨_, _, _, _, _, n', t1, t2, t3⟩
  · rw [t.2.2.1] at h
    exact absurd h (nneg hn)
  · rcases t with t | ⟨n', t1, t2, t3⟩
    · rw [t.2] at h
      exact absurd h (nneg hn)
    · exact key n' t1 t3
  · exact key n' t1 t3
/-- a node is made -/
theorem ee_mk {m1 m2 : MzM} {L1 L2 : MzV} {n p : Nat} {kd fl nm sr : Int32} (hE : EE m1 L1 m2 L2) (hn : n < 16) (hn0 : ¬ n = 0) (hth : mz_i m2 (32, 0) n = 0) (hp : dirE m2 p) (hnm : nmE nm) (hkd : (kd = 2 ∧ fl = 1) ∨ (kd = 1 ∧ fl = 0)) : EE (mk1 m1 n kd (Int32.ofNat p) nm) (lu L1 5 n []) (mk2 m2 n fl (Int32.ofNat p) nm sr) (lu L2 38 n []) := by
  have hpn : ¬ p = n := fun e => absurd (hth.symm.trans (e ▸ hp.2.1)) (by decide)
  have h0n : ¬ 0 = n := fun e => hn0 e.symm
  obtain ⟨a1, a2, a3, a4⟩ := mk1_n m1 n kd (Int32.ofNat p) nm
  obtain ⟨b1, b2, b3, b4, b5⟩ := mk2_n m2 n fl (Int32.ofNat p) nm sr
  refine ⟨sesE_mk hE.1 hth, sesE_mk hE.2.1 hth, fun i hi => ?_, ⟨fun i hi => ?_, hE.2.2.2.1.2⟩, ⟨dirE_mk hE.2.2.2.2.1.1 h0n, (mk2_o m2 fl (Int32.ofNat p) nm sr h0n 34).trans hE.2.2.2.2.1.2.1, (mk1_o m1 kd (Int32.ofNat p) nm h0n 2).trans hE.2.2.2.2.1.2.2⟩, ?_, hE.2.2.2.2.2.2.1, fun v hv => ?_, hE.2.2.2.2.2.2.2.2⟩
  · obtain ⟨q1, q2, q3, q4, q5, q6⟩ := hE.2.2.1 i hi
    by_cases hin : i = n
    · subst hin
      refine ⟨Or.inr b1, ?_, ?_, fun _ _ => ⟨a2.trans b3.symm, ?_, p, dirE_mk hp hpn, b3⟩, fun _ => a3.trans b4.symm, fun _ => ⟨?_, fun _ => Or.inr ?_, fun z => absurd a4 z⟩⟩
      · rw [b2]
        exact hkd.elim (fun z => Or.inr z.2) (fun z => Or.inl z.2)
      · rw [a1, b1, b2]
        rcases hkd with ⟨z1, z2⟩ | ⟨z1, z2⟩
        · rw [z1, z2]
          rfl
        · rw [z1, z2]
          rfl
      · rw [b4]
        exact hnm
      · rw [lu_same, lu_same]
      · rw [lu_same]
        rfl
    · have c := mk1_o m1 kd (Int32.ofNat p) nm hin
      have e := mk2_o m2 fl (Int32.ofNat p) nm sr hin
      refine ⟨by rw [e]; exact q1, by rw [e]; exact q2, by rw [c, e, e]; exact q3, fun z z0 => ?_, fun z => ?_, fun z => ?_⟩
      · rw [e] at z
        obtain ⟨w1, w2, k, w3, w4⟩ := q4 z z0
        refine ⟨by rw [c, e]; exact w1, by rw [e]; exact w2, k, dirE_mk w3 (fun y => ?_), by rw [e]; exact w4⟩
        rw [y] at w3
        exact absurd (hth.symm.trans w3.2.1) (by decide)
      · rw [e] at z
        rw [c, e]
        exact q5 z
      · rw [c, e, lu_ne _ _ (fun y => hin y.2), lu_ne _ _ (fun y => hin y.2)]
        exact q6 (filE_mk' z hin)
  · have c4 := mk1_k m1 n i kd (Int32.ofNat p) nm (q := 4) (by decide) (by decide) (by decide) (by decide)
    have c5 := mk1_k m1 n i kd (Int32.ofNat p) nm (q := 5) (by decide) (by decide) (by decide) (by decide)
    obtain ⟨q1, q2, q3, q4⟩ := hE.2.2.2.1.1 i hi
    rw [c4, c5]
    refine ⟨q1, q2, q3, fun z => ?_⟩
    by_cases hin : i = n
    · subst hin
      rcases q3.mp z with w | w
      · exact absurd (hth.symm.trans (mv_fil hE (by decide) hn w.2).2.1) (by decide)
      · exact absurd (hth.symm.trans (mv_fil hE (by decide) hn w.2).2.1) (by decide)
    · rw [mk1_o m1 kd (Int32.ofNat p) nm hin]
      exact q4 z
  · obtain ⟨d, hd⟩ := hE.2.2.2.2.2.1
    refine ⟨fun k => if k = n then d p + 1 else d k, fun k q hk hk0 h1 h2 hq => ?_⟩
    show (if q = n then d p + 1 else d q) < (if k = n then d p + 1 else d k)
    by_cases hkn : k = n
    · subst hkn
      rw [b3] at h2
      have e := ofN_inj (by have := hp.1; omega) (by omega) h2
      rw [← e, if_neg hpn, if_pos rfl]
      omega
    · rw [mk2_o m2 fl (Int32.ofNat p) nm sr hkn] at h1 h2
      have hqn : ¬ q = n := by
        intro e
        obtain ⟨_, _, k', w3, w4⟩ := (hE.2.2.1 k hk).2.2.2.1 h1 hk0
        have e2 := ofN_inj (by omega) (by have := w3.1; omega) (h2.symm.trans w4)
        rw [← e2, e] at w3
        exact absurd (hth.symm.trans w3.2.1) (by decide)
      rw [if_neg hqn, if_neg hkn]
      exact hd k q hk hk0 h1 h2 hq
  · exact hE.2.2.2.2.2.2.2.1 v hv
theorem frN_spec {m2 : MzM} : frN m2 = -1 ∨ ∃ n : Nat, n < 16 ∧ ¬ n = 0 ∧ mz_i m2 (32, 0) n = 0 ∧ frN m2 = Int32.ofNat n := by
  rcases chF_spec (p := fun j => decide (mz_i m2 (32, 0) j = 0)) 15 1 with h | ⟨i, h1, h2, h3, h4⟩
  · exact Or.inl h
  · exact Or.inr ⟨i, by omega, by omega, of_decide_eq_true h3, h4⟩
theorem pl_make {kd pl nm : Int32} {M mo m1 m2 : MzM} {L L1 L2 : MzV} {K : Int32 → MzM → Prop} (h : A1 M mo L) (hN : ∀ n : Nat, n < 16 → nodeE m1 L1 m2 L2 n) (e3 : ∀ n : Nat, mz_i mo (3, n) 1 = mz_i m1 (3, n) 1) (h0 : frN m2 = -1 → K (-1) M) (h1 : ∀ n : Nat, n < 16 → ¬ n = 0 → mz_i m2 (32, 0) n = 0 → frN m2 = Int32.ofNat n → ∀ M', A1 M' (mk1 mo n kd pl nm) (lu L 5 n []) → K (Int32.ofNat n) M') : wp_Store_make kd pl nm M K := by
  have key : ∀ (s j : Nat), j + s = 16 → 1 ≤ j → chF (fun j => decide (mz_i m2 (32, 0) j = 0)) s j = frN m2 → wp_Store_make_3 K (s + 1) kd pl nm (Int32.ofNat j) M := by
    intro s
    induction s with
    | zero =>
      intro j hj hj1 hc
      have hj : j = 16 := by omega
      subst hj
      exact ⟨fun _ => h0 hc.symm, fun z => absurd (by decide) z⟩
    | succ s ih =>
      intro j hj hj1 hc
      obtain ⟨w1, w2⟩ := i32_of16 (j := j) (by omega)
      refine ⟨fun z => absurd z w1, fun _ => ⟨j, w2, by omega, fun z => ?_, fun z => ?_⟩⟩
      · rw [h.1 (3, j) 1 rfl, e3, kd0 (hN j (by omega))] at z
        rw [i32_succ (n := j) rfl]
        refine ih (j + 1) (by omega) (by omega) ?_
        rw [← hc]
        show _ = (if decide (mz_i m2 (32, 0) j = 0) = true then Int32.ofNat j else chF (fun j => decide (mz_i m2 (32, 0) j = 0)) s (j + 1))
        rw [if_neg (fun y => z (of_decide_eq_true y))]
      · rw [h.1 (3, j) 1 rfl, e3, kd0 (hN j (by omega))] at z
        rintro _ rfl _ rfl _ rfl _ rfl _ rfl
        refine h1 j (by omega) (by omega) z ?_ _ ((((((h.si (o := (3, j)) (k := 1) (v := kd) rfl).si (o := (3, j)) (k := 2) (v := pl) rfl).si (o := (3, j)) (k := 3) (v := nm) rfl).clr (t := 5) (i := j) rfl).si (o := (3, j)) (k := 6) (v := 0) rfl))
        rw [← hc]
        show (if decide (mz_i m2 (32, 0) j = 0) = true then Int32.ofNat j else _) = _
        rw [if_pos (decide_eq_true z)]
  exact ⟨16, key 15 1 rfl (by decide) rfl⟩
theorem mo_create {n : Nat} {a fl pl nm : Int32} {M m : MzM} {L : MzV} {K : MzM → Prop} (h : A2 M m L) (ha : a.toInt = (n : Int)) (hn : n < 16) (e34 : mz_i m (30, 0) 34 = pl) (e35 : mz_i m (30, 0) 35 = nm) (hfl : fl = 0 ∨ fl = 1) (hk : ∀ M', A2 M' (mk2 m n fl pl nm (if fl = 0 then 1 else 0)) (lu L 38 n []) → K M') : wp_Mo_create a fl M K := by
  have f34 : mz_i M (30, 0) 34 = pl := (h.1 30 34 rfl).trans e34
  have f35 : mz_i M (30, 0) 35 = nm := (h.1 30 35 rfl).trans e35
  have h' := ((((h.si (t := 32) (k := n) (v := 1) rfl).si (t := 33) (k := n) (v := fl) rfl).si (t := 34) (k := n) (v := pl) rfl).si (t := 35) (k := n) (v := nm) rfl).clr (t := 38) (i := n) rfl
  refine ⟨n, ha, hn, ?_⟩
  rintro _ rfl
  refine ⟨hfl, n, ha, hn, ?_⟩
  rintro _ rfl
  refine ⟨n, ha, hn, ?_⟩
  rintro _ rfl
  refine ⟨n, ha, hn, ?_⟩
  rintro _ rfl
  refine ⟨n, ha, hn, ?_⟩
  rintro _ rfl
  have g34 : mz_i (mz_si (mz_si M (32, 0) n 1) (33, 0) n fl) (30, 0) 34 = pl := f34
  have g35 : mz_i (mz_si (mz_si (mz_si M (32, 0) n 1) (33, 0) n fl) (34, 0) n (mz_i (mz_si (mz_si M (32, 0) n 1) (33, 0) n fl) (30, 0) 34)) (30, 0) 35 = nm := f35
  rw [g35, g34]
  refine ⟨fun z => ⟨n, ha, hn, ?_⟩, fun z => ⟨n, ha, hn, ?_⟩⟩
  · rintro _ rfl
    rw [if_neg z] at hk
    exact hk _ (h'.si (t := 37) (k := n) (v := 0) rfl)
  · rintro _ rfl
    rw [if_pos z] at hk
    exact hk _ (h'.si (t := 37) (k := n) (v := 1) rfl)
