/-! bytes one behind the other: what the copier says -/
def tkL : List Int32 → MzM → (MzM → Prop) → Prop
  | [], M, K => K M
  | b :: l, M, K => wp_Mo_take1 1 b M (fun M' => tkL l M' K)
theorem tk_mono {b : Int32} {M : MzM} {P Q : MzM → Prop} (h : wp_Mo_take1 1 b M P) (hPQ : ∀ M', P M' → Q M') : wp_Mo_take1 1 b M Q := by
  obtain ⟨M', h1, h2⟩ := det_take1 P h
  exact h2 Q (hPQ M' h1)
theorem cpF.trans {a b c d e f : MzM} (h : cpF a b c d) (g : cpF c d e f) : cpF a b e f := by
  obtain ⟨h0, h1, h2, h3, h4, h5, h6, h7, h8, h9⟩ := h
  obtain ⟨g0, g1, g2, g3, g4, g5, g6, g7, g8, g9⟩ := g
  exact ⟨fun k => (g0 k).trans (h0 k), g1.trans h1, g2.trans h2, g3.trans h3, g4.trans h4, g5.trans h5, g6.trans h6, g7.trans h7, g8.trans h8, g9.trans h9⟩
theorem cpF.rfl (a b : MzM) : cpF a b a b := ⟨fun _ => Eq.refl _, Eq.refl _, Eq.refl _, Eq.refl _, Eq.refl _, Eq.refl _, Eq.refl _, Eq.refl _, Eq.refl _, Eq.refl _⟩
/-- as OO, and no order is begun -/
def OT (m1 m2 : MzM) (M1' M2' : MzM) : Prop := ∃ (m1' : MzM) (L1' : MzV) (m2' : MzM) (L2' : MzV), A1 M1' m1' L1' ∧ A2 M2' m2' L2' ∧ EE m1' L1' m2' L2' ∧ cpF m1 m2 m1' m2' ∧ mz_i m2' (39, 0) 1 = 0
theorem OT.oo {m1 m2 M1 M2 : MzM} (h : OT m1 m2 M1 M2) : OO m1 m2 M1 M2 := by
  obtain ⟨a, b, c, d, h1, h2, h3, h4, _⟩ := h
  exact ⟨a, b, c, d, h1, h2, h3, h4⟩
/-- what stands behind a line that the copier said -/
def OS (m1 m2 : MzM) (M1' M2' : MzM) : Prop := ∃ (m1' : MzM) (L1' : MzV) (m2' : MzM) (L2' : MzV), A1 M1' m1' L1' ∧ A2 M2' m2' L2' ∧ EE m1' L1' m2' L2' ∧ cpF m1 m2 m1' m2' ∧ (mz_i m1' (8, 1) 16 = mz_i m2' (30, 0) 30 ∧ ¬ mz_i m1' (8, 1) 16 ≤ 0) ∧ (mz_i m1' (8, 1) 16 = 213 → mz_i m1' (8, 1) 14 = mz_i m2' (30, 0) 31 ∧ ∃ k : Nat, k < 25 ∧ mz_i m2' (30, 0) 31 = Int32.ofNat k)
theorem by1 {m1 m2 M1 M2 : MzM} {b : Int32} {K : MzM → Prop} (hob : ∀ c : Nat, c < 21 → obPred 1 c) (hO : OO m1 m2 M1 M2) (hb : b < 251) (hk : ∀ M1' M2', OT m1 m2 M1' M2' → (∀ K2 : MzM → Prop, K2 M2' → wp_Mo_take1 1 b M2 K2) → K M1') : wp_Ses_accept 1 b M1 K := by
  obtain ⟨m1', L1', m2', L2', h1, h2, hE, hc⟩ := hO
  refine acc_1 (a := 1) hob hE rfl h1 (fun M1' hr => ?_)
  obtain ⟨M2', hQ, hgo⟩ := det_take1 (fun M2' => OQ m1' m2' 1 b M1' M2') (hr M2 _ h2 (fun M2' hO => hO))
  refine hk M1' M2' ?_ hgo
  rcases hQ with ⟨_, n1, l1, n2, l2, g1, g2, g3, g4, g5, g6⟩ | ⟨_, n1, l1, n2, l2, g1, g2, g3, g4, g5, _⟩
  · exact ⟨n1, l1, n2, l2, g1, g2, g3, hc.trans g4, g5 hb⟩
  · exact ⟨n1, l1, n2, l2, g1, g2, g3, hc.trans g4, g5.1⟩
theorem by2 {m1 m2 M1 M2 : MzM} {K : MzM → Prop} (hob : ∀ c : Nat, c < 21 → obPred 1 c) (hO : OT m1 m2 M1 M2) (hk : ∀ M1' M2', OS m1 m2 M1' M2' → (∀ K2 : MzM → Prop, K2 M2' → tkL [13, 10] M2 K2) → K M1') : wp_Ses_accept 1 13 M1 (fun M20 => wp_Ses_accept 1 10 M20 (fun M23 => K M23)) := by
  obtain ⟨m1', L1', m2', L2', h1, h2, hE, hc, o0⟩ := hO
  refine acc_1 (a := 1) hob hE rfl h1 (fun M1' hr => ?_)
  obtain ⟨M2', hQ, hgo⟩ := det_take1 (fun M2' => OQ m1' m2' 1 13 M1' M2') (hr M2 _ h2 (fun M2' hO => hO))
  rcases hQ with ⟨_, n1, l1, n2, l2, g1, g2, g3, g4, g5, g6⟩ | ⟨z, _⟩
  · have p0 : mz_i n2 (39, 0) 1 = 0 := g5 (by decide)
    have p1 : mz_i n2 (40, 0) 1 = 1 := (g6 o0 (by decide)).1 rfl
    have p2 : ¬ mz_i n2 (40, 0) 1 = 0 := by
      rw [p1]
      decide
    refine acc_1 (a := 1) hob g3 rfl g1 (fun M1'' hr2 => ?_)
    obtain ⟨M2'', hQ2, hgo2⟩ := det_take1 (fun M2'' => OQ n1 n2 1 10 M1'' M2'') (hr2 M2' _ g2 (fun M2'' hO => hO))
    refine hk M1'' M2'' ?_ (fun K2 q => hgo (fun M' => wp_Mo_take1 1 10 M' (fun M'' => K2 M'')) (hgo2 K2 q))
    rcases hQ2 with ⟨z, _⟩ | ⟨_, k1, q1, k2, q2, e1, e2, e3, e4, _, e6, e7⟩
    · exact absurd ⟨p0, p2, rfl⟩ z
    · exact ⟨k1, q1, k2, q2, e1, e2, e3, (hc.trans g4).trans e4, e6, e7⟩
  · exact absurd z.2.2 (by decide)
/-! the class -/
theorem cop_33 {w : Nat} {m1 m2 : MzM} {K : MzM → Prop} (hob : ∀ c : Nat, c < 21 → obPred 1 c) : ∀ (k q : Nat) (v : Int32) (M1 M2 : MzM), k ≤ 3 → v.toInt = (q : Int) → OT m1 m2 M1 M2 → (∀ M1' M2', OS m1 m2 M1' M2' → (∀ K2 : MzM → Prop, K2 M2' → tkL (ltr k v ++ [13, 10]) M2 K2) → K M1') → wp_Cop_say_33 w K (k + 1) v (Int32.ofNat (3 - k)) M1 := by
  intro k
  induction k with
  | zero =>
    intro q v M1 M2 _ _ hO hk
    exact ⟨fun _ => by2 hob hO hk, fun z => absurd (by decide) z⟩
  | succ k ih =>
    intro q v M1 M2 hk3 hv hO hk
    have t3 : (Int32.ofNat (3 - (k + 1))).toInt = ((3 - (k + 1) : Nat) : Int) := itn (by omega)
    refine ⟨fun z => absurd ((ile (m := 3) rfl t3).mp z) (by omega), fun _ => ⟨fun z => ?_, fun z => ?_⟩⟩
    · have ef : ltr (k + 1) v = [] := if_pos z
      rw [ef, List.nil_append] at hk
      exact by2 hob hO hk
    · have ef : ltr (k + 1) v = (v - v / (128 : Int32) * (128 : Int32)) :: ltr k (v / (128 : Int32)) := if_neg z
      rw [ef] at hk
      have e3 : Int32.ofNat (3 - (k + 1)) + 1 = Int32.ofNat (3 - k) := by
        rw [i32_succ (n := 3 - (k + 1)) rfl]
        have : 3 - (k + 1) + 1 = 3 - k := by omega
        rw [this]
      rw [e3]
      have hm := imod (n := 128) hv (show (128 : Int32).toInt = ((128 : Nat) : Int) from rfl)
      have hb : v - v / (128 : Int32) * (128 : Int32) < 251 := by
        have := Nat.mod_lt q (show 0 < 128 by decide)
        exact (ilt (n := 251) hm rfl).mpr (by omega)
      refine by1 hob hO.oo hb (fun M1' M2' hO' hgo => ?_)
      exact ih (q / 128) (v / 128) M1' M2' (by omega) (idiv (n := 128) hv rfl) hO' (fun M1'' M2'' hS hgo2 => hk M1'' M2'' hS (fun K2 r => hgo (fun M' => tkL (ltr k (v / 128) ++ [13, 10]) M' K2) (hgo2 K2 r)))
theorem cop_2 {w q : Nat} {tail : Int32} {m1 m2 : MzM} {K : MzM → Prop} (hob : ∀ c : Nat, c < 21 → obPred 1 c) (h60 : (mzStrB.getD w []).length ≤ 60) (ht : tail.toInt = (q : Int)) : ∀ (rest pre : List Int32) (M1 M2 : MzM), mzStrB.getD w [] = pre ++ rest → OO m1 m2 M1 M2 → (rest = [] → OT m1 m2 M1 M2) → (∀ b : Int32, b ∈ rest → b < 251) → (∀ M1' M2', OS m1 m2 M1' M2' → (∀ K2 : MzM → Prop, K2 M2' → tkL (rest ++ (ltr 3 tail ++ [13, 10])) M2 K2) → K M1') → wp_Cop_say_2 w K (rest.length + 1) tail (Int32.ofNat pre.length) M1 := by
  intro rest
  induction rest with
  | nil =>
    intro pre M1 M2 e hO hT _ hk
    have el : (mzStrB.getD w []).length = pre.length := by rw [e, List.append_nil]
    refine ⟨fun _ => ⟨3 + 1, cop_33 hob 3 q tail M1 M2 (Nat.le_refl _) ht (hT rfl) hk⟩, fun z => absurd (by rw [el]; exact Int32.le_refl _) z⟩
  | cons b rest ih =>
    intro pre M1 M2 e hO _ hb hk
    have el : (mzStrB.getD w []).length = pre.length + rest.length + 1 := by
      rw [e, List.length_append, List.length_cons]
      omega
    have tp : (Int32.ofNat pre.length).toInt = (pre.length : Int) := itn (by omega)
    have tl : (Int32.ofNat (mzStrB.getD w []).length).toInt = ((mzStrB.getD w []).length : Int) := itn (by omega)
    have eb : (mzStrB.getD w []).getD pre.length 0 = b := by
      rw [e, List.getD_eq_getElem?_getD, List.getElem?_append_right (Nat.le_refl _), Nat.sub_self]
      rfl
    show wp_Cop_say_2 w K (rest.length + 1 + 1) tail (Int32.ofNat pre.length) M1
    refine ⟨fun z => absurd ((ile tl tp).mp z) (by omega), fun _ => ⟨pre.length, tp, by omega, ?_⟩⟩
    rw [eb]
    refine by1 hob hO (hb b (List.mem_cons_self ..)) (fun M1' M2' hO' hgo => ?_)
    rw [i32_succ (n := pre.length) rfl]
    have ep : pre.length + 1 = (pre ++ [b]).length := by rw [List.length_append, List.length_singleton]
    rw [ep]
    exact ih (pre ++ [b]) M1' M2' (by rw [e, List.append_assoc]; rfl) hO'.oo (fun _ => hO') (fun c hc => hb c (List.mem_cons_of_mem _ hc)) (fun M1'' M2'' hS hgo2 => hk M1'' M2'' hS (fun K2 r => hgo (fun M' => tkL (rest ++ (ltr 3 tail ++ [13, 10])) M' K2) (hgo2 K2 r)))
/-! the reference -/
def d1L (y4 : Int32) : List Int32 := if y4 ≤ 9 then [] else [(48 : Int32) + (y4 / (10 : Int32))]
def d2L (y4 : Int32) : List Int32 := if y4 < 0 then [] else [(48 : Int32) + (y4 - y4 / (10 : Int32) * (10 : Int32))]
theorem tkL_cons (x : Int32) (l : List Int32) (M : MzM) (K : MzM → Prop) : tkL (x :: l) M K = wp_Mo_take1 1 x M (fun M' => tkL l M' K) := rfl
theorem mo_s122 {y4 : Int32} {M : MzM} {K : Int32 → MzM → Prop} (h : tkL (d2L y4 ++ [13, 10]) M (fun M' => K (mz_i M' (30, 0) 30) M')) : wp_Mo_say_122 K y4 M := by
  refine ⟨fun z => ?_, fun z => ?_⟩
  · have e : d2L y4 = [] := if_pos z
    rw [e, List.nil_append] at h
    exact h
  · have e : d2L y4 = [(48 : Int32) + (y4 - y4 / (10 : Int32) * (10 : Int32))] := if_neg z
    rw [e, List.singleton_append, tkL_cons] at h
    exact h
theorem mo_s75 {y4 : Int32} {K : Int32 → MzM → Prop} : ∀ (k w : Nat) (v : Int32) (M : MzM), v.toInt = (w : Int) → w < 128 ^ k → tkL (ltr k v ++ (d1L y4 ++ (d2L y4 ++ [13, 10]))) M (fun M' => K (mz_i M' (30, 0) 30) M') → wp_Mo_say_75 K (k + 1) y4 v M := by
  intro k
  have fin : ∀ M : MzM, tkL (d1L y4 ++ (d2L y4 ++ [13, 10])) M (fun M' => K (mz_i M' (30, 0) 30) M') → ((y4 ≤ (9 : Int32) → wp_Mo_say_122 K y4 M) ∧ (¬ y4 ≤ (9 : Int32) → wp_Mo_take1 (1 : Int32) ((48 : Int32) + (y4 / (10 : Int32))) M (fun M22 => wp_Mo_say_122 K y4 M22))) := by
    intro M h
    refine ⟨fun z => ?_, fun z => ?_⟩
    · have e : d1L y4 = [] := if_pos z
      rw [e, List.nil_append] at h
      exact mo_s122 h
    · have e : d1L y4 = [(48 : Int32) + (y4 / (10 : Int32))] := if_neg z
      rw [e, List.singleton_append, tkL_cons] at h
      exact tk_mono (P := fun M' => tkL (d2L y4 ++ [13, 10]) M' (fun M' => K (mz_i M' (30, 0) 30) M')) h (fun M' q => mo_s122 q)
  induction k with
  | zero =>
    intro w v M hv hw h
    have w0 : w = 0 := by
      have e : (128 : Nat) ^ 0 = 1 := rfl
      omega
    subst w0
    exact ⟨fun _ => fin M h, fun z => absurd ((ile (n := 0) hv rfl).mpr (by omega)) z⟩
  | succ k ih =>
    intro w v M hv hw h
    refine ⟨fun z => ?_, fun z => ?_⟩
    · have ef : ltr (k + 1) v = [] := if_pos z
      rw [ef, List.nil_append] at h
      exact fin M h
    · have ef : ltr (k + 1) v = (v - v / (128 : Int32) * (128 : Int32)) :: ltr k (v / (128 : Int32)) := if_neg z
      rw [ef, List.cons_append, tkL_cons] at h
      exact tk_mono (P := fun M' => tkL (ltr k (v / 128) ++ (d1L y4 ++ (d2L y4 ++ [13, 10]))) M' (fun M' => K (mz_i M' (30, 0) 30) M')) h (fun M' q => ih (w / 128) (v / 128) M' (idiv (n := 128) hv rfl) (Nat.div_lt_of_lt_mul (by rw [Nat.pow_succ, Nat.mul_comm] at hw; exact hw)) q)
def c2L (y2 : Int32) : List Int32 := if y2 ≤ 0 then [] else [y2]
def spL (a1 : Int32) : List Int32 := if a1 = 10 then [] else [32]
def wbl (y5 : Int32) : Nat → List Int32
  | 0 => []
  | n + 1 => (if (y5 >>> (((7 : Int32) * Int32.ofNat n) &&& 31)) ≤ 0 then [] else [(y5 >>> (((7 : Int32) * Int32.ofNat n) &&& 31)) &&& (127 : Int32)]) ++ wbl y5 n
theorem mo_s62 {w : Nat} {y2 y3 y4 : Int32} {M : MzM} {K : Int32 → MzM → Prop} (h3 : y3.toInt = (w : Int)) (hw : w < 128 ^ 3) (h : tkL (c2L y2 ++ (ltr 3 y3 ++ (d1L y4 ++ (d2L y4 ++ [13, 10])))) M (fun M' => K (mz_i M' (30, 0) 30) M')) : wp_Mo_say_62 K y2 y3 y4 M := by
  refine ⟨fun z => ?_, fun z => ?_⟩
  · have e : c2L y2 = [] := if_pos z
    rw [e, List.nil_append] at h
    exact ⟨3 + 1, mo_s75 3 w y3 M h3 hw h⟩
  · have e : c2L y2 = [y2] := if_neg z
    rw [e, List.singleton_append, tkL_cons] at h
    exact tk_mono (P := fun M' => tkL (ltr 3 y3 ++ (d1L y4 ++ (d2L y4 ++ [13, 10]))) M' (fun M' => K (mz_i M' (30, 0) 30) M')) h (fun M' q => ⟨3 + 1, mo_s75 3 w y3 M' h3 hw q⟩)
theorem mo_s11 {w : Nat} {y1 y2 y3 y4 y5 : Int32} {K : Int32 → MzM → Prop} (h3 : y3.toInt = (w : Int)) (hw : w < 128 ^ 3) : ∀ (n : Nat) (y6 : Int32) (M : MzM), n ≤ 4 → y6.toInt = (n : Int) - 1 → tkL (wbl y5 n ++ (spL y1 ++ (c2L y2 ++ (ltr 3 y3 ++ (d1L y4 ++ (d2L y4 ++ [13, 10])))))) M (fun M' => K (mz_i M' (30, 0) 30) M') → wp_Mo_say_11 K (n + 1) y1 y2 y3 y4 y5 y6 M := by
  intro n
  induction n with
  | zero =>
    intro y6 M _ hy h
    have e0 : wbl y5 0 = [] := rfl
    rw [e0, List.nil_append] at h
    refine ⟨fun _ => ⟨fun z => ?_, fun z => ?_⟩, fun z => absurd ((ilt (n := 0) hy rfl).mpr (by omega)) z⟩
    · have e : spL y1 = [] := if_pos z
      rw [e, List.nil_append] at h
      exact mo_s62 h3 hw h
    · have e : spL y1 = [32] := if_neg z
      rw [e, List.singleton_append, tkL_cons] at h
      exact tk_mono (P := fun M' => tkL (c2L y2 ++ (ltr 3 y3 ++ (d1L y4 ++ (d2L y4 ++ [13, 10])))) M' (fun M' => K (mz_i M' (30, 0) 30) M')) h (fun M' q => mo_s62 h3 hw q)
  | succ n ih =>
    intro y6 M hn hy h
    have ty : y6.toInt = (n : Int) := by rw [hy]; omega
    have ey : y6 = Int32.ofNat n := iofn ty
    have t1 : (y6 + -1).toInt = (n : Int) - 1 := by
      rw [iadd (n := -1) ty rfl (by omega) (by omega)]
      omega
    refine ⟨fun z => absurd ((ilt (n := 0) ty rfl).mp z) (by omega), fun _ => ⟨fun z => ?_, fun z => ?_⟩⟩
    · rw [ey] at z
      have e : wbl y5 (n + 1) = wbl y5 n := by
        unfold wbl
        rw [if_pos z]
        cases n <;> rfl
      rw [e] at h
      exact ih (y6 + -1) M (by omega) t1 h
    · have z' := z
      rw [ey] at z'
      have e : wbl y5 (n + 1) = ((y5 >>> (((7 : Int32) * Int32.ofNat n) &&& 31)) &&& (127 : Int32)) :: wbl y5 n := by
        have e1 : wbl y5 (n + 1) = (if (y5 >>> (((7 : Int32) * Int32.ofNat n) &&& 31)) ≤ 0 then [] else [(y5 >>> (((7 : Int32) * Int32.ofNat n) &&& 31)) &&& (127 : Int32)]) ++ wbl y5 n := rfl
        rw [e1, if_neg z']
        rfl
      rw [e, ← ey, List.cons_append, tkL_cons] at h
      exact tk_mono (P := fun M' => tkL (wbl y5 n ++ (spL y1 ++ (c2L y2 ++ (ltr 3 y3 ++ (d1L y4 ++ (d2L y4 ++ [13, 10])))))) M' (fun M' => K (mz_i M' (30, 0) 30) M')) h (fun M' q => ih (y6 + -1) M' (by omega) t1 q)
def rL (j : Nat) (a1 y2 y3 y4 : Int32) : List Int32 := wbl (wdT.getD j 0) 4 ++ (spL a1 ++ (c2L y2 ++ (ltr 3 y3 ++ (d1L y4 ++ (d2L y4 ++ [13, 10])))))
theorem mo_say {w j : Nat} {a1 y2 y3 y4 : Int32} {M : MzM} {K : Int32 → MzM → Prop} (ha : a1.toInt = (j : Int)) (hj : j < 22) (hm : mz_i M (31, 0) j = wdT.getD j 0) (h3 : y3.toInt = (w : Int)) (hw : w < 128 ^ 3) (h : tkL (rL j a1 y2 y3 y4) M (fun M' => K (mz_i M' (30, 0) 30) M')) : wp_Mo_say a1 y2 y3 y4 M K := by
  refine ⟨j, ha, hj, 4 + 1, ?_⟩
  rw [hm]
  exact mo_s11 h3 hw 4 3 M (Nat.le_refl _) rfl h
/-- a line of the copier, in both -/
theorem say_cr {w j : Nat} {tail a1 y2 y3 y4 : Int32} {m1 m2 M1 M2 : MzM} {K : MzM → Prop} (hob : ∀ c : Nat, c < 21 → obPred 1 c) (hO : OO m1 m2 M1 M2) (hS : ¬ mzStrB.getD w [] = []) (h60 : (mzStrB.getD w []).length ≤ 60) (hb : ∀ b : Int32, b ∈ mzStrB.getD w [] → b < 251) (ha : a1.toInt = (j : Int)) (hj : j < 22) (ht : ∃ q : Nat, tail.toInt = (q : Int)) (h3 : ∃ q : Nat, y3.toInt = (q : Int) ∧ q < 128 ^ 3) (heq : mzStrB.getD w [] ++ (ltr 3 tail ++ [13, 10]) = rL j a1 y2 y3 y4) (hk : ∀ M1' M2', OS m1 m2 M1' M2' → (∀ K2 : Int32 → MzM → Prop, K2 (mz_i M2' (30, 0) 30) M2' → wp_Mo_say a1 y2 y3 y4 M2 K2) → K M1') : wp_Cop_say w tail M1 K := by
  obtain ⟨q, ht⟩ := ht
  obtain ⟨q3, h3, hw⟩ := h3
  have hm : mz_i M2 (31, 0) j = wdT.getD j 0 := by
    obtain ⟨_, _, m2', _, _, h2, hE, _⟩ := hO
    rw [h2.1 31 j rfl]
    exact hE.2.2.2.2.2.2.2.1 j hj
  refine ⟨(mzStrB.getD w []).length + 1, cop_2 hob h60 ht (mzStrB.getD w []) [] M1 M2 rfl hO (fun z => absurd z hS) hb (fun M1' M2' hS' hgo => hk M1' M2' hS' (fun K2 r => ?_))⟩
  rw [heq] at hgo
  exact mo_say ha hj hm h3 hw (hgo (fun M' => K2 (mz_i M' (30, 0) 30) M') r)
/-- the texts that a name follows -/
theorem nm_eq {w j : Nat} {a1 : Int32} (h : mzStrB.getD w [] = wbl (wdT.getD j 0) 4 ++ [32, 47]) (h10 : ¬ a1 = 10) (v : Int32) : mzStrB.getD w [] ++ (ltr 3 v ++ [13, 10]) = rL j a1 47 v (-1) := by
  have e1 : spL a1 = [32] := if_neg h10
  have e2 : c2L 47 = [47] := by decide
  have e3 : d1L (-1) = [] := by decide
  have e4 : d2L (-1) = [] := by decide
  unfold rL
  rw [h, e1, e2, e3, e4, List.append_assoc]
  rfl
theorem nm_16 : mzStrB.getD 16 [] = wbl (wdT.getD 9 0) 4 ++ [32, 47] := by decide +kernel
theorem nm_17 : mzStrB.getD 17 [] = wbl (wdT.getD 17 0) 4 ++ [32, 47] := by decide +kernel
theorem nm_19 : mzStrB.getD 19 [] = wbl (wdT.getD 13 0) 4 ++ [32, 47] := by decide +kernel
theorem nm_20 : mzStrB.getD 20 [] = wbl (wdT.getD 12 0) 4 ++ [32, 47] := by decide +kernel
theorem nm_21 : mzStrB.getD 21 [] = wbl (wdT.getD 20 0) 4 ++ [32, 47] := by decide +kernel
theorem nm_22 : mzStrB.getD 22 [] = wbl (wdT.getD 21 0) 4 ++ [32, 47] := by decide +kernel
theorem lg_12 : mzStrB.getD 12 [] ++ (ltr 3 0 ++ [13, 10]) = rL 1 1 0 (((97 : Int32) + ((128 : Int32) * 100)) + ((16384 : Int32) * 109)) (-1) := by decide +kernel
theorem lg_13 : mzStrB.getD 13 [] ++ (ltr 3 0 ++ [13, 10]) = rL 2 2 0 (((107 : Int32) + ((128 : Int32) * 101)) + ((16384 : Int32) * 121)) (-1) := by decide +kernel
theorem lg_14 : mzStrB.getD 14 [] ++ (ltr 3 0 ++ [13, 10]) = rL 5 5 73 0 (-1) := by decide +kernel
theorem lg_15 : mzStrB.getD 15 [] ++ (ltr 3 0 ++ [13, 10]) = rL 10 10 0 0 (-1) := by decide +kernel
def dgI (a0 : Int32) : Int32 := if (10 : Int32) ≤ a0 then ((48 : Int32) + (a0 / (10 : Int32))) + (((48 : Int32) + (a0 - a0 / (10 : Int32) * (10 : Int32))) * (128 : Int32)) else (48 : Int32) + a0
theorem rs_18 : ∀ k : Nat, k < 25 → mzStrB.getD 18 [] ++ (ltr 3 (dgI (Int32.ofNat k)) ++ [13, 10]) = rL 11 11 0 0 (Int32.ofNat k) := by decide +kernel
theorem rs_pos : ∀ k : Nat, k < 25 → ∃ q : Nat, (dgI (Int32.ofNat k)).toInt = (q : Int) := by
  intro k hk
  have h : ∀ k : Nat, k < 25 → 0 ≤ (dgI (Int32.ofNat k)).toInt := by decide +kernel
  exact ⟨(dgI (Int32.ofNat k)).toInt.toNat, (Int.toNat_of_nonneg (h k hk)).symm⟩
theorem cop_digits {a0 : Int32} {M : MzM} {K : Int32 → MzM → Prop} (h : K (dgI a0) M) : wp_Cop_digitsOf a0 M K := by
  refine ⟨fun z => ?_, fun z => ?_⟩
  · have e : dgI a0 = ((48 : Int32) + (a0 / (10 : Int32))) + (((48 : Int32) + (a0 - a0 / (10 : Int32) * (10 : Int32))) * (128 : Int32)) := if_pos z
    rw [← e]
    exact h
  · have e : dgI a0 = (48 : Int32) + a0 := if_neg z
    rw [← e]
    exact h
theorem nm_pos {v : Int32} (h : nmE v) : (∃ q : Nat, v.toInt = (q : Int)) ∧ ∃ q : Nat, v.toInt = (q : Int) ∧ q < 128 ^ 3 := by
  obtain ⟨w, hw, _, e⟩ := nmE_w h
  exact ⟨⟨w, e⟩, ⟨w, e, hw⟩⟩
theorem tmp_pos : (∃ q : Nat, (1849076 : Int32).toInt = (q : Int)) ∧ ∃ q : Nat, (1849076 : Int32).toInt = (q : Int) ∧ q < 128 ^ 3 := ⟨⟨1849076, by decide⟩, ⟨1849076, by decide, by decide⟩⟩
theorem str_ok : ∀ w : Nat, 12 ≤ w → w < 23 → ¬ mzStrB.getD w [] = [] ∧ (mzStrB.getD w []).length ≤ 60 ∧ ∀ b : Int32, b ∈ mzStrB.getD w [] → b < 251 := by
  intro w h1 h2
  have e : w = 12 ∨ w = 13 ∨ w = 14 ∨ w = 15 ∨ w = 16 ∨ w = 17 ∨ w = 18 ∨ w = 19 ∨ w = 20 ∨ w = 21 ∨ w = 22 := by omega
  rcases e with rfl | rfl | rfl | rfl | rfl | rfl | rfl | rfl | rfl | rfl | rfl
  all_goals
    refine ⟨by decide +kernel, by decide +kernel, ?_⟩
    decide +kernel
