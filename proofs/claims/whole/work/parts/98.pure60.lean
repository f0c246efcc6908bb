/-! sending begins -/
theorem pl_load {x : Nat} {b : Int32} {M m : MzM} {L : MzV} {acc : List Int32} {K : MzM → Prop} (h : A1 M m (lu L 17 x acc)) (hl : acc.length < 75) (hk : ∀ M', A1 M' m (lu L 17 x (acc ++ [b])) → K M') : wp_Way_load x b M K := by
  have el : lu L 17 x acc 17 x = acc := lu_same L 17 x acc
  have e1 := (h.2.2.1 17 16 7 75 x rfl).1
  rw [el] at e1
  have e4 : (mz_i M (16, x) 7).toInt = (acc.length : Int) := by rw [e1]; exact itn (by omega)
  refine ⟨fun h9 => ?_, fun h9 => ?_⟩
  · have q := (ile (m := 75) rfl e4).mp h9
    omega
  · refine ⟨acc.length, e4, hl, ?_⟩
    rintro _ rfl _ rfl
    have h1 := A1.push (t := 17) (v := b) (w := mz_i (mz_si M (17, x) acc.length b) (16, x) 7 + 1) h rfl (by rw [el]; exact hl) (by rw [el]; exact i32_succ e1)
    rw [el, lu_lu] at h1
    exact hk _ h1
theorem mo_addOut {x : Nat} {b : Int32} {M m : MzM} {L : MzV} {acc : List Int32} {K : MzM → Prop} (h : A2 M m (lu L 58 x acc)) (hs : (mz_i m (30, 0) 29).toInt = (x : Int)) (hx : x < 2) (hl : acc.length < 96) (hk : ∀ M', A2 M' m (lu L 58 x (acc ++ [b])) → K M') : wp_Mo_addOut b M K := by
  have el : lu L 58 x acc 58 x = acc := lu_same L 58 x acc
  have e1 := (h.2 58 56 96 2 x rfl hx).1
  rw [el] at e1
  have g29 : (mz_i M (30, 0) 29).toInt = (x : Int) := by rw [h.1 30 29 rfl]; exact hs
  have e4 : (mz_i M (56, 0) x).toInt = (acc.length : Int) := by rw [e1]; exact itn (by omega)
  have e5 : ((96 : Int32) * (mz_i M (30, 0) 29)).toInt = 96 * (x : Int) := imul (m := 96) rfl g29 (by omega) (by omega)
  have e6 : (((96 : Int32) * (mz_i M (30, 0) 29)) + (mz_i M (56, 0) x)).toInt = ((96 * x + acc.length : Nat) : Int) := by rw [iadd e5 e4 (by omega) (by omega)]; omega
  refine ⟨x, g29, hx, 96 * x + acc.length, e6, by omega, ?_⟩
  rintro _ rfl
  refine ⟨x, g29, hx, x, g29, hx, ?_⟩
  rintro _ rfl
  have h1 := A2.push (t := 58) (v := b) (w := mz_i (mz_si M (58, 0) (96 * x + acc.length) b) (56, 0) x + 1) h rfl hx (by rw [el]; exact hl) (by rw [el]; exact i32_succ e1)
  rw [el, lu_lu] at h1
  exact hk _ h1
/-- what is sent of the bytes of a file -/
def fil (asc : Int32) : List Int32 → List Int32
  | [] => []
  | b :: l => if ¬ asc = 0 ∧ b = 10 then 13 :: b :: fil asc l else b :: fil asc l
theorem pl_send_loop {x n : Nat} {asc : Int32} {m : MzM} {L : MzV} {K : MzM → Prop} : ∀ (rest pre acc : List Int32) (M : MzM), L 5 n = pre ++ rest → A1 M m (lu L 17 x acc) → acc.length + 2 * rest.length ≤ 75 → (∀ M', A1 M' m (lu L 17 x (acc ++ fil asc rest)) → K M') → wp_Way_sendFile_23 x n K (rest.length + 1) asc (Int32.ofNat pre.length) M := by
  intro rest
  induction rest with
  | nil =>
    intro pre acc M e h hl hk
    have e1 := (h.2.2.1 5 4 1 24 n rfl).1
    rw [lu_ne _ _ (fun z => absurd z.1 (by decide)), e, List.append_nil] at e1
    refine ⟨fun _ => ?_, fun z => absurd (by rw [e1]; exact Int32.le_refl _) z⟩
    have ef : acc ++ fil asc [] = acc := List.append_nil acc
    rw [ef] at hk
    exact hk M h
  | cons b rest ih =>
    intro pre acc M e h hl hk
    obtain ⟨e1, e2, e3⟩ := h.2.2.1 5 4 1 24 n rfl
    rw [lu_ne _ _ (fun z => absurd z.1 (by decide)), e] at e1 e2 e3
    have hlen : (pre ++ b :: rest).length = pre.length + rest.length + 1 := by
      rw [List.length_append, List.length_cons]
      omega
    have hl1 : acc.length + 2 * (rest.length + 1) ≤ 75 := hl
    have tp : (Int32.ofNat pre.length).toInt = (pre.length : Int) := itn (by omega)
    have t4 : (mz_i M (4, n) 1).toInt = ((pre.length + rest.length + 1 : Nat) : Int) := by rw [e1, hlen]; exact itn (by omega)
    have nle : ¬ mz_i M (4, n) 1 ≤ Int32.ofNat pre.length := fun z => by
      have := (ile t4 tp).mp z
      omega
    have eb : mz_i M (5, n) pre.length = b := by
      have q := e3 pre.length (by omega)
      rw [List.getElem?_append_right (Nat.le_refl _), Nat.sub_self] at q
      exact (Option.some.inj q).symm
    have step : ∀ (M' : MzM) (acc' : List Int32), A1 M' m (lu L 17 x acc') → acc'.length + 1 + 2 * rest.length ≤ 75 → (∀ M'', A1 M'' m (lu L 17 x (acc' ++ [b] ++ fil asc rest)) → K M'') → wp_Way_sendFile_63 x n (wp_Way_sendFile_23 x n K (rest.length + 1)) K asc (Int32.ofNat pre.length) b M' := by
      intro M' acc' h' hl' hk'
      unfold wp_Way_sendFile_63
      refine pl_load h' (by omega) (fun M2 h2 => ?_)
      rw [i32_succ (n := pre.length) rfl]
      have ep : pre.length + 1 = (pre ++ [b]).length := by rw [List.length_append, List.length_singleton]
      rw [ep]
      exact ih (pre ++ [b]) (acc' ++ [b]) M2 (by rw [e, List.append_assoc]; rfl) h2 (by rw [List.length_append, List.length_singleton]; omega) hk'
    show wp_Way_sendFile_23 x n K (rest.length + 1 + 1) asc (Int32.ofNat pre.length) M
    refine ⟨fun z => absurd z nle, fun _ => ⟨fun z => absurd ((ilt (n := 0) tp rfl).mp z) (by omega), fun _ => ⟨fun z => absurd z nle, fun _ => ⟨fun z => absurd ((ile (m := 24) rfl tp).mp z) (by omega), fun _ => ⟨pre.length, tp, by omega, ?_⟩⟩⟩⟩⟩
    rw [eb]
    by_cases hc : ¬ asc = 0 ∧ b = 10
    · have ef : fil asc (b :: rest) = 13 :: b :: fil asc rest := if_pos hc
      rw [ef] at hk
      refine ⟨fun z => absurd z hc.1, fun _ => ⟨fun z => absurd hc.2 z, fun _ => pl_load h (by omega) (fun M2 h2 => step M2 (acc ++ [13]) h2 (by rw [List.length_append, List.length_singleton]; omega) (fun M3 h3 => hk M3 ?_))⟩⟩
      have e9 : acc ++ [13] ++ [b] ++ fil asc rest = acc ++ 13 :: b :: fil asc rest := by
        rw [List.append_assoc, List.append_assoc]
        rfl
      rw [← e9]
      exact h3
    · have ef : fil asc (b :: rest) = b :: fil asc rest := if_neg hc
      rw [ef] at hk
      have g := step M acc h (by omega) (fun M3 h3 => hk M3 (by
        have e9 : acc ++ [b] ++ fil asc rest = acc ++ b :: fil asc rest := by
          rw [List.append_assoc]
          rfl
        rw [← e9]
        exact h3))
      exact ⟨fun _ => g, fun z => ⟨fun _ => g, fun w => absurd ⟨z, w⟩ hc⟩⟩
def sd1 (m : MzM) (x n : Nat) : MzM := mz_si (mz_sr (mz_si m (16, x) 1 1) (16, x) 4 (some (3, n))) (3, n) 4 (mz_i m (3, n) 4 + 1)
theorem pl_sendFile {x n k : Nat} {asc : Int32} {M m : MzM} {L : MzV} {K : MzM → Prop} (h : A1 M m L) (h17 : L 17 x = []) (hk : k ≤ (L 5 n).length) (hK : ∀ M', A1 M' (sd1 m x n) (lu L 17 x (fil asc ((L 5 n).drop k))) → K M') : wp_Way_sendFile x n (Int32.ofNat k) asc M K := by
  rintro _ rfl _ rfl _ rfl
  have l24 : (L 5 n).length ≤ 24 := (h.2.2.1 5 4 1 24 n rfl).2.1
  have h3 : A1 (mz_si (mz_sr (mz_si M (16, x) 1 1) (16, x) 4 (some (3, n))) (3, n) 4 (mz_i M (3, n) 4 + 1)) (sd1 m x n) (lu L 17 x []) := by
    rw [h.1 (3, n) 4 rfl, ← h17, lu_id]
    exact ((h.si (o := (16, x)) (k := 1) (v := 1) rfl).sr (o := (16, x)) (k := 4) (v := some (3, n))).si (o := (3, n)) (k := 4) (v := mz_i m (3, n) 4 + 1) rfl
  have e : ((L 5 n).take k).length = k := by rw [List.length_take]; omega
  refine ⟨((L 5 n).drop k).length + 1, ?_⟩
  have g := pl_send_loop (x := x) (n := n) (asc := asc) (m := sd1 m x n) (L := L) (K := K) ((L 5 n).drop k) ((L 5 n).take k) [] _ (List.take_append_drop k _).symm h3 (by rw [List.length_nil, List.length_drop]; omega) hK
  rw [e] at g
  exact g
/-! the reference -/
def sd2 (m : MzM) (x : Nat) (f : Int32) : MzM := mz_si (mz_si (mz_si m (53, 0) x 1) (54, 0) x f) (57, 0) x 0
def bsK (K : MzM → Prop) (M19 : MzM) : Prop := (∃ j22 : Nat, (mz_i M19 (30, 0) 29).toInt = (j22 : Int) ∧ j22 < 2 ∧ ((¬ (mz_i M19 (56, 0) j22) = 0 → K M19) ∧ ((mz_i M19 (56, 0) j22) = 0 → wp_Mo_finish (mz_i M19 (30, 0) 29) M19 (fun M26 => K M26))))
theorem mo_beginSending {x : Nat} {f : Int32} {M m : MzM} {L : MzV} {K : MzM → Prop} (h : A2 M m L) (hs : (mz_i m (30, 0) 29).toInt = (x : Int)) (hx : x < 2) (hk : ∀ M', A2 M' (sd2 m x f) L → wp_Mo_answer 150 M' (bsK K)) : wp_Mo_beginSending f M K := by
  have g29 : (mz_i M (30, 0) 29).toInt = (x : Int) := by rw [h.1 30 29 rfl]; exact hs
  refine ⟨x, g29, hx, ?_⟩
  rintro _ rfl
  refine ⟨x, g29, hx, ?_⟩
  rintro _ rfl
  refine ⟨x, g29, hx, ?_⟩
  rintro _ rfl
  exact hk _ (((h.si (t := 53) (k := x) (v := 1) rfl).si (t := 54) (k := x) (v := f) rfl).si (t := 57) (k := x) (v := 0) rfl)
theorem mo_retr_loop {x n : Nat} {m : MzM} {L : MzV} {K : MzM → Prop} (hs : (mz_i m (30, 0) 29).toInt = (x : Int)) (hx : x < 2) (hn : n < 16) (e33 : mz_i m (30, 0) 33 = Int32.ofNat n) : ∀ (rest pre acc : List Int32) (M : MzM), L 38 n = pre ++ rest → A2 M m (lu L 58 x acc) → acc.length + 2 * rest.length ≤ 96 → (∀ M', A2 M' m (lu L 58 x (acc ++ fil (mz_i m (51, 0) x) rest)) → wp_Mo_beginSending (Int32.ofNat n) M' K) → wp_Mo_retrieve_114 K (rest.length + 1) (Int32.ofNat pre.length) M := by
  intro rest
  have tn : (Int32.ofNat n).toInt = (n : Int) := itn (by omega)
  induction rest with
  | nil =>
    intro pre acc M e h hl hk
    have e1 := (h.2 38 36 24 16 n rfl hn).1
    rw [lu_ne _ _ (fun z => absurd z.1 (by decide)), e, List.append_nil] at e1
    have g33 : mz_i M (30, 0) 33 = Int32.ofNat n := (h.1 30 33 rfl).trans e33
    refine ⟨n, by rw [g33]; exact tn, hn, fun _ => ?_, fun z => absurd (by rw [e1]; exact Int32.le_refl _) z⟩
    have ef : acc ++ fil (mz_i m (51, 0) x) [] = acc := List.append_nil acc
    rw [ef] at hk
    rw [g33]
    exact hk M h
  | cons b rest ih =>
    intro pre acc M e h hl hk
    obtain ⟨e1, e2, e3⟩ := h.2 38 36 24 16 n rfl hn
    rw [lu_ne _ _ (fun z => absurd z.1 (by decide)), e] at e1 e2 e3
    have g33 : mz_i M (30, 0) 33 = Int32.ofNat n := (h.1 30 33 rfl).trans e33
    have g29 : (mz_i M (30, 0) 29).toInt = (x : Int) := by rw [h.1 30 29 rfl]; exact hs
    have g51 : mz_i M (51, 0) x = mz_i m (51, 0) x := h.1 51 x rfl
    have hlen : (pre ++ b :: rest).length = pre.length + rest.length + 1 := by
      rw [List.length_append, List.length_cons]
      omega
    have hl1 : acc.length + 2 * (rest.length + 1) ≤ 96 := hl
    have tp : (Int32.ofNat pre.length).toInt = (pre.length : Int) := itn (by omega)
    have t4 : (mz_i M (36, 0) n).toInt = ((pre.length + rest.length + 1 : Nat) : Int) := by rw [e1, hlen]; exact itn (by omega)
    have nle : ¬ mz_i M (36, 0) n ≤ Int32.ofNat pre.length := fun z => by
      have := (ile t4 tp).mp z
      omega
    have eb : mz_i M (38, 0) (24 * n + pre.length) = b := by
      have q := e3 pre.length (by omega)
      rw [List.getElem?_append_right (Nat.le_refl _), Nat.sub_self] at q
      exact (Option.some.inj q).symm
    have e5 : ((24 : Int32) * Int32.ofNat n).toInt = 24 * (n : Int) := imul (m := 24) rfl tn (by omega) (by omega)
    have e6 : (((24 : Int32) * Int32.ofNat n) + Int32.ofNat pre.length).toInt = ((24 * n + pre.length : Nat) : Int) := by rw [iadd e5 tp (by omega) (by omega)]; omega
    have step : ∀ (M' : MzM) (acc' : List Int32), A2 M' m (lu L 58 x acc') → acc'.length + 1 + 2 * rest.length ≤ 96 → (∀ M'', A2 M'' m (lu L 58 x (acc' ++ [b] ++ fil (mz_i m (51, 0) x) rest)) → wp_Mo_beginSending (Int32.ofNat n) M'' K) → wp_Mo_retrieve_170 (wp_Mo_retrieve_114 K (rest.length + 1)) K (Int32.ofNat pre.length) b M' := by
      intro M' acc' h' hl' hk'
      unfold wp_Mo_retrieve_170
      refine mo_addOut h' hs hx (by omega) (fun M2 h2 => ?_)
      rw [i32_succ (n := pre.length) rfl]
      have ep : pre.length + 1 = (pre ++ [b]).length := by rw [List.length_append, List.length_singleton]
      rw [ep]
      exact ih (pre ++ [b]) (acc' ++ [b]) M2 (by rw [e, List.append_assoc]; rfl) h2 (by rw [List.length_append, List.length_singleton]; omega) hk'
    show wp_Mo_retrieve_114 K (rest.length + 1 + 1) (Int32.ofNat pre.length) M
    refine ⟨n, by rw [g33]; exact tn, hn, fun z => absurd z nle, fun _ => ⟨24 * n + pre.length, by rw [g33]; exact e6, by omega, ?_⟩⟩
    rw [eb]
    by_cases hb : b = 10
    · refine ⟨fun z => absurd hb z, fun _ => ⟨x, g29, hx, ?_⟩⟩
      rw [g51]
      by_cases ha : mz_i m (51, 0) x = 0
      · have ef : fil (mz_i m (51, 0) x) (b :: rest) = b :: fil (mz_i m (51, 0) x) rest := if_neg (fun z => z.1 ha)
        rw [ef] at hk
        refine ⟨fun _ => step M acc h (by omega) (fun M3 h3 => hk M3 ?_), fun z => absurd ha z⟩
        have e9 : acc ++ [b] ++ fil (mz_i m (51, 0) x) rest = acc ++ b :: fil (mz_i m (51, 0) x) rest := by
          rw [List.append_assoc]
          rfl
        rw [← e9]
        exact h3
      · have ef : fil (mz_i m (51, 0) x) (b :: rest) = 13 :: b :: fil (mz_i m (51, 0) x) rest := if_pos ⟨ha, hb⟩
        rw [ef] at hk
        refine ⟨fun z => absurd z ha, fun _ => mo_addOut h hs hx (by omega) (fun M2 h2 => step M2 (acc ++ [13]) h2 (by rw [List.length_append, List.length_singleton]; omega) (fun M3 h3 => hk M3 ?_))⟩
        have e9 : acc ++ [13] ++ [b] ++ fil (mz_i m (51, 0) x) rest = acc ++ 13 :: b :: fil (mz_i m (51, 0) x) rest := by
          rw [List.append_assoc, List.append_assoc]
          rfl
        rw [← e9]
        exact h3
    · have ef : fil (mz_i m (51, 0) x) (b :: rest) = b :: fil (mz_i m (51, 0) x) rest := if_neg (fun z => hb z.2)
      rw [ef] at hk
      refine ⟨fun _ => step M acc h (by omega) (fun M3 h3 => hk M3 ?_), fun z => absurd z hb⟩
      have e9 : acc ++ [b] ++ fil (mz_i m (51, 0) x) rest = acc ++ b :: fil (mz_i m (51, 0) x) rest := by
        rw [List.append_assoc]
        rfl
      rw [← e9]
      exact h3
/-- the file n is received -/
def wrt (m2 : MzM) (n : Nat) : Prop := mvE m2 0 n 2 ∨ mvE m2 1 n 2
theorem mo_written {n : Nat} {a : Int32} {M m m2 : MzM} {L : MzV} {K : Int32 → MzM → Prop} (h : A2 M m L) (e53 : mz_i m (53, 0) = mz_i m2 (53, 0)) (e54 : mz_i m (54, 0) = mz_i m2 (54, 0)) (ha : a = Int32.ofNat n) (h1 : wrt m2 n → K 1 M) (h0 : ¬ wrt m2 n → K 0 M) : wp_Mo_written a M K := by
  have a0 : mz_i M (53, 0) 0 = mz_i m2 (53, 0) 0 := (h.1 53 0 rfl).trans (by rw [e53])
  have a1 : mz_i M (53, 0) 1 = mz_i m2 (53, 0) 1 := (h.1 53 1 rfl).trans (by rw [e53])
  have b0 : mz_i M (54, 0) 0 = mz_i m2 (54, 0) 0 := (h.1 54 0 rfl).trans (by rw [e54])
  have b1 : mz_i M (54, 0) 1 = mz_i m2 (54, 0) 1 := (h.1 54 1 rfl).trans (by rw [e54])
  have go : ¬ mvE m2 0 n 2 → wp_Mo_written_20 K a M := by
    intro n0
    unfold wp_Mo_written_20
    rw [a1, b1, ha]
    exact ⟨fun z => h0 (fun w => w.elim n0 (fun y => z y.1)), fun z => ⟨fun y => h0 (fun w => w.elim n0 (fun q => y q.2)), fun y => h1 (Or.inr ⟨z, y⟩)⟩⟩
  unfold wp_Mo_written
  rw [a0, b0]
  exact ⟨fun z => go (fun w => z w.1), fun z => ⟨fun y => h1 (Or.inl ⟨z, y.trans ha⟩), fun y => go (fun w => y (w.2.trans ha.symm))⟩⟩
theorem mo_retr {X n k : Nat} {M m m2 : MzM} {L : MzV} {K : MzM → Prop} (h : A2 M m L) (hs : (mz_i m (30, 0) 29).toInt = (X : Int)) (hX : X < 2) (hk24 : k ≤ 24) (e33 : mz_i m (30, 0) 33 = Int32.ofNat n) (hf : filE m2 n) (f33 : mz_i m (33, 0) = mz_i m2 (33, 0)) (f52 : mz_i m (52, 0) = mz_i m2 (52, 0)) (f53 : mz_i m (53, 0) = mz_i m2 (53, 0)) (f54 : mz_i m (54, 0) = mz_i m2 (54, 0))
    (h450 : wrt m2 n → wp_Mo_answer 450 M K) (h425 : ¬ wrt m2 n → mz_i m2 (52, 0) X = 0 → wp_Mo_answer 425 M K) (h554 : ¬ wrt m2 n → ¬ mz_i m2 (52, 0) X = 0 → ¬ k ≤ (L 38 n).length → wp_Mo_answer 554 M K) (h150 : ¬ wrt m2 n → ¬ mz_i m2 (52, 0) X = 0 → k ≤ (L 38 n).length → ∀ M', A2 M' (sd2 m X (Int32.ofNat n)) (lu L 58 X (fil (mz_i m (51, 0) X) ((L 38 n).drop k))) → wp_Mo_answer 150 M' (bsK K)) : wp_Mo_retrieve (Int32.ofNat k) M K := by
  have hn := hf.1
  have g33 : mz_i M (30, 0) 33 = Int32.ofNat n := (h.1 30 33 rfl).trans e33
  have g33' : mz_i M (33, 0) n = 1 := ((h.1 33 n rfl).trans (by rw [f33])).trans hf.2.2
  have g29 : (mz_i M (30, 0) 29).toInt = (X : Int) := by rw [h.1 30 29 rfl]; exact hs
  have g52 : mz_i M (52, 0) X = mz_i m2 (52, 0) X := (h.1 52 X rfl).trans (by rw [f52])
  obtain ⟨d1, d2, d3⟩ := h.2 38 36 24 16 n rfl hn
  have tn : (Int32.ofNat n).toInt = (n : Int) := itn (by omega)
  have tk : (Int32.ofNat k).toInt = (k : Int) := itn (by omega)
  have tl : (Int32.ofNat (L 38 n).length).toInt = ((L 38 n).length : Int) := itn (by omega)
  unfold wp_Mo_retrieve
  rw [g33]
  refine ⟨fun z => absurd ((ilt (n := 0) tn rfl).mp z) (by omega), fun _ => ⟨n, tn, hn, ?_⟩⟩
  rw [g33']
  refine ⟨fun z => absurd z (by decide), fun _ => ⟨fun _ => ?_, fun z => absurd z (by decide)⟩⟩
  rw [g33]
  refine mo_written (n := n) (m2 := m2) h f53 f54 rfl (fun hm => ⟨fun z => absurd z (by decide), fun _ => ⟨fun z => absurd z (by decide), fun _ => h450 hm⟩⟩) (fun hm => ⟨fun _ => ⟨X, g29, hX, ?_⟩, fun z => absurd rfl z⟩)
  rw [g52]
  refine ⟨fun z => ⟨n, by rw [g33]; exact tn, hn, ?_⟩, fun z => ⟨fun w => absurd w (by decide), fun _ => h425 hm z⟩⟩
  rw [d1]
  refine ⟨fun y => ⟨fun _ => ⟨X, g29, hX, ?_⟩, fun w => absurd (by decide) w⟩, fun y => ⟨fun w => absurd w (by decide), fun _ => h554 hm z (fun w => y ((ile tk tl).mpr (by omega)))⟩⟩
  have hkl : k ≤ (L 38 n).length := by
    have := (ile tk tl).mp y
    omega
  rintro _ rfl
  have h1 := h.clr (t := 58) (i := X) rfl
  have e : ((L 38 n).take k).length = k := by rw [List.length_take]; omega
  refine ⟨((L 38 n).drop k).length + 1, ?_⟩
  have g := mo_retr_loop (x := X) (n := n) (m := m) (L := L) (K := K) hs hX hn e33 ((L 38 n).drop k) ((L 38 n).take k) [] _ (List.take_append_drop k _).symm h1 (by rw [List.length_nil, List.length_drop]; omega) (fun M' h' => mo_beginSending h' hs hX (fun M2 h2 => h150 hm z hkl M2 h2))
  rw [e] at g
  exact g
theorem mo_retrC {tg v : Int32} {M m m2 : MzM} {L : MzV} {K : MzM → Prop} (h : A2 M m L) (htg : exI m2 tg) (e33 : mz_i m (30, 0) 33 = tg) (f33 : mz_i m (33, 0) = mz_i m2 (33, 0)) (hb : ∀ n : Nat, n < 16 → (mz_i m2 (33, 0) n = 0 ∨ mz_i m2 (33, 0) n = 1)) (hz : ∀ n : Nat, ¬ (filE m2 n ∧ tg = Int32.ofNat n)) (h550 : wp_Mo_answer 550 M K) : wp_Mo_retrieve v M K := by
  have g33 : mz_i M (30, 0) 33 = tg := (h.1 30 33 rfl).trans e33
  have go : wp_Mo_retrieve_23 K v M := ⟨fun z => absurd rfl z, fun _ => ⟨fun z => absurd z (by decide), fun _ => h550⟩⟩
  refine ⟨fun _ => go, fun z => ?_⟩
  rw [g33] at z ⊢
  rcases htg with q | ⟨n, hn, hth, etg⟩
  · exact absurd (by rw [q]; decide) z
  · have tn : tg.toInt = (n : Int) := by rw [etg]; exact itn (by omega)
    refine ⟨n, tn, hn, fun _ => go, fun y => ?_⟩
    rw [h.1 33 n rfl, f33] at y
    exact absurd ⟨⟨hn, hth, (z01 (hb n hn)).mp y⟩, etg⟩ (hz n)
/-! the class -/
theorem pl_sendB {X k n : Nat} {asc : Int32} {M mo m1 m2 : MzM} {L L1 L1' L2 : MzV} {K : Int32 → MzM → Prop} (h : A1 M mo L) (hE : EE m1 L1 m2 L2) (hN : ∀ n : Nat, n < 16 → nodeE mo L1' m2 L2 n) (hk24 : k ≤ 24) (e12 : mz_i mo (8, X) 12 = Int32.ofNat n) (e11 : mz_i mo (8, X) 11 = Int32.ofNat k) (hf : filE m2 n) (e5 : mz_i mo (3, n) 5 = mz_i m1 (3, n) 5) (e16 : mz_i mo (16, X) 0 = mz_i m2 (52, 0) X) (e8 : mz_i mo (8, X) 8 = asc) (h17 : L 17 X = [])
    (h450 : wrt m2 n → K 450 M) (h425 : ¬ wrt m2 n → mz_i m2 (52, 0) X = 0 → K 425 M) (h554 : ¬ wrt m2 n → ¬ mz_i m2 (52, 0) X = 0 → ¬ k ≤ (L 5 n).length → K 554 M) (h150 : ¬ wrt m2 n → ¬ mz_i m2 (52, 0) X = 0 → k ≤ (L 5 n).length → ∀ M', A1 M' (sd1 mo X n) (lu L 17 X (fil asc ((L 5 n).drop k))) → K 150 M') : wp_Ses_sendFile X M K := by
  have hn := hf.1
  obtain ⟨_, b2, b3, _⟩ := hE.2.2.2.1.1 n hn
  have f12 : mz_i M (8, X) 12 = Int32.ofNat n := (h.1 _ _ rfl).trans e12
  have f11 : mz_i M (8, X) 11 = Int32.ofNat k := (h.1 _ _ rfl).trans e11
  have f16 : mz_i M (16, X) 0 = mz_i m2 (52, 0) X := (h.1 _ _ rfl).trans e16
  have f8 : mz_i M (8, X) 8 = asc := (h.1 _ _ rfl).trans e8
  have f5 : mz_i M (3, n) 5 = mz_i m1 (3, n) 5 := (h.1 _ _ rfl).trans e5
  obtain ⟨d1, d2, d3⟩ := h.2.2.1 5 4 1 24 n rfl
  have tk : (Int32.ofNat k).toInt = (k : Int) := itn (by omega)
  have tl : (Int32.ofNat (L 5 n).length).toInt = ((L 5 n).length : Int) := itn (by omega)
  unfold wp_Ses_sendFile
  rw [f12]
  refine pl_isFile (m2 := m2) h hN (fun n' hf' e => ⟨fun _ => ⟨n, by rw [f12]; exact itn (by omega), hn, ?_⟩, fun z => absurd z (by decide)⟩) (fun hz => absurd ⟨hf, rfl⟩ (hz n))
  rw [f5, f16, f11, d1, f8]
  refine ⟨fun z => ?_, fun z => h450 (b3.mp ((z01 b2).mp z))⟩
  have hm : ¬ wrt m2 n := fun w => absurd (z.symm.trans (b3.mpr w)) (by decide)
  refine ⟨fun z2 => ⟨fun y => ?_, fun y => h554 hm z2 (fun w => y ((ile tk tl).mpr (by omega)))⟩, fun z2 => h425 hm z2⟩
  have hkl : k ≤ (L 5 n).length := by
    have := (ile tk tl).mp y
    omega
  exact pl_sendFile h h17 hkl (fun M' h' => h150 hm z2 hkl M' h')
theorem pl_sendC {X : Nat} {tg : Int32} {M mo m2 : MzM} {L L1 L2 : MzV} {K : Int32 → MzM → Prop} (h : A1 M mo L) (hN : ∀ n : Nat, n < 16 → nodeE mo L1 m2 L2 n) (e12 : mz_i mo (8, X) 12 = tg) (hz : ∀ n : Nat, ¬ (filE m2 n ∧ tg = Int32.ofNat n)) (h550 : K 550 M) : wp_Ses_sendFile X M K := by
  have f12 : mz_i M (8, X) 12 = tg := (h.1 _ _ rfl).trans e12
  unfold wp_Ses_sendFile
  rw [f12]
  exact pl_isFile (m2 := m2) h hN (fun n' hf' e => absurd ⟨hf', e⟩ (hz n')) (fun _ => ⟨fun z => absurd rfl z, fun _ => h550⟩)
/-! names -/
def ltr : Nat → Int32 → List Int32
  | 0, _ => []
  | k + 1, v => if v ≤ 0 then [] else (v - v / (128 : Int32) * (128 : Int32)) :: ltr k (v / (128 : Int32))
def nml (v : Int32) : List Int32 := ltr 3 v ++ [13, 10]
theorem ltr_len : ∀ (k : Nat) (v : Int32), (ltr k v).length ≤ k := by
  intro k
  induction k with
  | zero => exact fun _ => Nat.le_refl _
  | succ k ih =>
    intro v
    unfold ltr
    by_cases h : v ≤ 0
    · rw [if_pos h]
      exact Nat.zero_le _
    · rw [if_neg h, List.length_cons]
      have := ih (v / 128)
      omega
theorem nml_len (v : Int32) : (nml v).length ≤ 5 := by
  unfold nml
  rw [List.length_append]
  have := ltr_len 3 v
  have e : ([13, 10] : List Int32).length = 2 := rfl
  omega
theorem pl_name_loop {x : Nat} {m : MzM} {L : MzV} {K : MzM → Prop} : ∀ (k : Nat) (v : Int32) (acc : List Int32) (M : MzM), k ≤ 3 → A1 M m (lu L 17 x acc) → acc.length + k + 2 ≤ 75 → (∀ M', A1 M' m (lu L 17 x (acc ++ (ltr k v ++ [13, 10]))) → K M') → wp_Way_loadName_4 x K (k + 1) v (Int32.ofNat (3 - k)) M := by
  intro k
  have fin : ∀ (acc : List Int32) (M : MzM), A1 M m (lu L 17 x acc) → acc.length + 2 ≤ 75 → (∀ M', A1 M' m (lu L 17 x (acc ++ ([] ++ [13, 10]))) → K M') → wp_Way_load x (13 : Int32) M (fun M3 => wp_Way_load x (10 : Int32) M3 (fun M6 => K M6)) := by
    intro acc M h hl hk
    refine pl_load h (by omega) (fun M2 h2 => pl_load h2 (by rw [List.length_append, List.length_singleton]; omega) (fun M3 h3 => hk M3 ?_))
    rw [List.append_assoc] at h3
    exact h3
  induction k with
  | zero =>
    intro v acc M hk3 h hl hk
    exact ⟨fun _ => fin acc M h (by omega) hk, fun z => absurd (by decide) z⟩
  | succ k ih =>
    intro v acc M hk3 h hl hk
    have t3 : (Int32.ofNat (3 - (k + 1))).toInt = ((3 - (k + 1) : Nat) : Int) := itn (by omega)
    refine ⟨fun z => absurd ((ile (m := 3) rfl t3).mp z) (by omega), fun _ => ⟨fun z => ?_, fun z => ?_⟩⟩
    · have ef : ltr (k + 1) v = [] := if_pos z
      rw [ef] at hk
      exact fin acc M h (by omega) hk
    · have ef : ltr (k + 1) v = (v - v / (128 : Int32) * (128 : Int32)) :: ltr k (v / (128 : Int32)) := if_neg z
      rw [ef] at hk
      refine pl_load h (by omega) (fun M2 h2 => ?_)
      rw [i32_succ (n := 3 - (k + 1)) rfl]
      have e3 : 3 - (k + 1) + 1 = 3 - k := by omega
      rw [e3]
      refine ih (v / 128) _ M2 (by omega) h2 (by rw [List.length_append, List.length_singleton]; omega) (fun M3 h3 => hk M3 ?_)
      rw [List.append_assoc] at h3
      exact h3
theorem mo_name_loop {x : Nat} {y1 : Int32} {m : MzM} {L : MzV} {H : Int32 → MzM → Prop} {K : MzM → Prop} (hs : (mz_i m (30, 0) 29).toInt = (x : Int)) (hx : x < 2) : ∀ (k w : Nat) (v : Int32) (acc : List Int32) (M : MzM), v.toInt = (w : Int) → w < 128 ^ k → A2 M m (lu L 58 x acc) → acc.length + k + 2 ≤ 96 → (∀ M', A2 M' m (lu L 58 x (acc ++ (ltr k v ++ [13, 10]))) → wp_Mo_sendNames_89 H K y1 M') → wp_Mo_sendNames_55 H K (k + 1) y1 v M := by
  intro k
  have fin : ∀ (acc : List Int32) (M : MzM), A2 M m (lu L 58 x acc) → acc.length + 2 ≤ 96 → (∀ M', A2 M' m (lu L 58 x (acc ++ ([] ++ [13, 10]))) → wp_Mo_sendNames_89 H K y1 M') → wp_Mo_addOut (13 : Int32) M (fun M33 => wp_Mo_addOut (10 : Int32) M33 (fun M36 => wp_Mo_sendNames_89 H K y1 M36)) := by
    intro acc M h hl hk
    refine mo_addOut h hs hx (by omega) (fun M2 h2 => mo_addOut h2 hs hx (by rw [List.length_append, List.length_singleton]; omega) (fun M3 h3 => hk M3 ?_))
    rw [List.append_assoc] at h3
    exact h3
  induction k with
  | zero =>
    intro w v acc M hv hw h hl hk
    have w0 : w = 0 := by
      have e : (128 : Nat) ^ 0 = 1 := rfl
      omega
    subst w0
    exact ⟨fun _ => fin acc M h (by omega) hk, fun z => absurd ((ile (n := 0) hv rfl).mpr (by omega)) z⟩
  | succ k ih =>
    intro w v acc M hv hw h hl hk
    refine ⟨fun z => ?_, fun z => ?_⟩
    · have ef : ltr (k + 1) v = [] := if_pos z
      rw [ef] at hk
      exact fin acc M h (by omega) hk
    · have ef : ltr (k + 1) v = (v - v / (128 : Int32) * (128 : Int32)) :: ltr k (v / (128 : Int32)) := if_neg z
      rw [ef] at hk
      refine mo_addOut h hs hx (by omega) (fun M2 h2 => ?_)
      refine ih (w / 128) (v / 128) _ M2 (idiv (n := 128) hv rfl) (Nat.div_lt_of_lt_mul (by rw [Nat.pow_succ, Nat.mul_comm] at hw; exact hw)) h2 (by rw [List.length_append, List.length_singleton]; omega) (fun M3 h3 => hk M3 ?_)
      rw [List.append_assoc] at h3
      exact h3
theorem nmE_w {v : Int32} (h : nmE v) : ∃ w : Nat, w < 128 ^ 3 ∧ 0 < w ∧ v.toInt = (w : Int) := by
  obtain ⟨a, b, c, ha, e, hc⟩ := h
  unfold nmB at ha hc
  have e3 : (128 : Nat) ^ 3 = 2097152 := rfl
  refine ⟨a + 128 * b + 16384 * c, by omega, by omega, ?_⟩
  rw [e]
  exact itn (by omega)
def nmsL (g : Nat → List Int32) : Nat → Nat → List Int32
  | 0, _ => []
  | k + 1, j => g j ++ nmsL g k (j + 1)
def gN (m2 : MzM) (cur : Int32) (n : Nat) : List Int32 := if mz_i m2 (32, 0) n = 1 ∧ mz_i m2 (34, 0) n = cur then nml (mz_i m2 (35, 0) n) else []
theorem pl_names_loop {x : Nat} {cur : Int32} {m m2 : MzM} {L L1 L2 : MzV} {K : Int32 → MzM → Prop} (hx : x < 2) (hme : mz_i m (8, x) 0 = Int32.ofNat x) (hcur : mz_i m (6, 0) x = cur) (hN : ∀ n : Nat, n < 16 → nodeE m L1 m2 L2 n) : ∀ (k j : Nat) (acc : List Int32) (M : MzM), j + k = 16 → ¬ j = 0 → A1 M m (lu L 17 x acc) → acc.length + 5 * k ≤ 75 → (∀ M', A1 M' m (lu L 17 x (acc ++ nmsL (gN m2 cur) k j)) → K 150 M') → wp_Ses_sendNames_23 x K (k + 1) (Int32.ofNat j) M := by
  intro k
  induction k with
  | zero =>
    intro j acc M hj hj0 h hl hk
    have ej : j = 16 := by omega
    subst ej
    refine ⟨fun _ => ?_, fun z => absurd (by decide) z⟩
    have ef : acc ++ nmsL (gN m2 cur) 0 16 = acc := List.append_nil acc
    rw [ef] at hk
    exact hk M h
  | succ k ih =>
    intro j acc M hj hj0 h hl hk
    have tj : (Int32.ofNat j).toInt = (j : Int) := itn (by omega)
    have hj16 : j < 16 := by omega
    have gme : (mz_i M (8, x) 0).toInt = (x : Int) := by rw [h.1 (8, x) 0 rfl, hme]; exact itn (by omega)
    have gcur : mz_i M (6, 0) x = cur := (h.1 (6, 0) x rfl).trans hcur
    have hNj := hN j hj16
    have g1 : mz_i M (3, j) 1 = mz_i m (3, j) 1 := h.1 (3, j) 1 rfl
    have g2 : mz_i M (3, j) 2 = mz_i m (3, j) 2 := h.1 (3, j) 2 rfl
    have g3 : mz_i M (3, j) 3 = mz_i m (3, j) 3 := h.1 (3, j) 3 rfl
    have es : nmsL (gN m2 cur) (k + 1) j = gN m2 cur j ++ nmsL (gN m2 cur) k (j + 1) := rfl
    have stay : gN m2 cur j = [] → wp_Ses_sendNames_75 x (wp_Ses_sendNames_23 x K (k + 1)) K (Int32.ofNat j) M := by
      intro e
      rw [es, e] at hk
      unfold wp_Ses_sendNames_75
      rw [i32_succ (n := j) rfl]
      exact ih (j + 1) acc M (by omega) (by omega) h (by omega) hk
    refine ⟨fun z => absurd ((ile (m := 16) rfl tj).mp z) (by omega), fun _ => ⟨j, tj, hj16, x, gme, hx, ?_⟩⟩
    unfold wp_Node_isIn
    rw [gcur, g1, g2]
    refine ⟨fun z => ⟨fun _ => stay ?_, fun w => absurd rfl w⟩, fun z => ⟨fun y => ⟨fun _ => stay ?_, fun w => absurd rfl w⟩, fun y => ⟨fun w => absurd w (by decide), fun _ => ⟨j, tj, hj16, ?_⟩⟩⟩⟩
    · exact if_neg (fun w => absurd (((kd0 hNj).mp z).symm.trans w.1) (by decide))
    · refine if_neg (fun w => y ?_)
      rw [(hNj.2.2.2.1 w.1 hj0).1]
      exact w.2
    · have th : mz_i m2 (32, 0) j = 1 := (z01 hNj.1).mp (fun w => z ((kd0 hNj).mpr w))
      have eg : gN m2 cur j = nml (mz_i m2 (35, 0) j) := if_pos ⟨th, (hNj.2.2.2.1 th hj0).1.symm.trans y⟩
      rw [g3, hNj.2.2.2.2.1 th]
      refine ⟨3 + 1, pl_name_loop 3 _ acc M (Nat.le_refl _) h (by omega) (fun M2 h2 => ?_)⟩
      unfold wp_Ses_sendNames_75
      rw [i32_succ (n := j) rfl]
      have h2' : A1 M2 m (lu L 17 x (acc ++ nml (mz_i m2 (35, 0) j))) := h2
      refine ih (j + 1) _ M2 (by omega) (by omega) h2' (by have := nml_len (mz_i m2 (35, 0) j); rw [List.length_append]; omega) (fun M3 h3 => hk M3 ?_)
      rw [List.append_assoc] at h3
      rw [es, eg]
      exact h3
theorem mo_names_loop {x : Nat} {m m1 m2 : MzM} {L L1 L2 : MzV} {K : MzM → Prop} (hs : (mz_i m (30, 0) 29).toInt = (x : Int)) (hx : x < 2) (f32 : mz_i m (32, 0) = mz_i m2 (32, 0)) (f34 : mz_i m (34, 0) = mz_i m2 (34, 0)) (f35 : mz_i m (35, 0) = mz_i m2 (35, 0)) (f50 : mz_i m (50, 0) = mz_i m2 (50, 0)) (hN : ∀ n : Nat, n < 16 → nodeE m1 L1 m2 L2 n) : ∀ (k j : Nat) (acc : List Int32) (M : MzM), j + k = 16 → ¬ j = 0 → A2 M m (lu L 58 x acc) → acc.length + 5 * k ≤ 75 → (∀ M', A2 M' m (lu L 58 x (acc ++ nmsL (gN m2 (mz_i m2 (50, 0) x)) k j)) → wp_Mo_beginSending (-1) M' K) → wp_Mo_sendNames_12 K (k + 1) (Int32.ofNat j) M := by
  intro k
  induction k with
  | zero =>
    intro j acc M hj hj0 h hl hk
    have ej : j = 16 := by omega
    subst ej
    refine ⟨fun _ => ?_, fun z => absurd (by decide) z⟩
    have ef : acc ++ nmsL (gN m2 (mz_i m2 (50, 0) x)) 0 16 = acc := List.append_nil acc
    rw [ef] at hk
    exact hk M h
  | succ k ih =>
    intro j acc M hj hj0 h hl hk
    have tj : (Int32.ofNat j).toInt = (j : Int) := itn (by omega)
    have hj16 : j < 16 := by omega
    have g29 : (mz_i M (30, 0) 29).toInt = (x : Int) := by rw [h.1 30 29 rfl]; exact hs
    have g32 : mz_i M (32, 0) j = mz_i m2 (32, 0) j := (h.1 32 j rfl).trans (by rw [f32])
    have g34 : mz_i M (34, 0) j = mz_i m2 (34, 0) j := (h.1 34 j rfl).trans (by rw [f34])
    have g35 : mz_i M (35, 0) j = mz_i m2 (35, 0) j := (h.1 35 j rfl).trans (by rw [f35])
    have g50 : mz_i M (50, 0) x = mz_i m2 (50, 0) x := (h.1 50 x rfl).trans (by rw [f50])
    have hNj := hN j hj16
    have es : nmsL (gN m2 (mz_i m2 (50, 0) x)) (k + 1) j = gN m2 (mz_i m2 (50, 0) x) j ++ nmsL (gN m2 (mz_i m2 (50, 0) x)) k (j + 1) := rfl
    have stay : gN m2 (mz_i m2 (50, 0) x) j = [] → wp_Mo_sendNames_89 (wp_Mo_sendNames_12 K (k + 1)) K (Int32.ofNat j) M := by
      intro e
      rw [es, e] at hk
      unfold wp_Mo_sendNames_89
      rw [i32_succ (n := j) rfl]
      exact ih (j + 1) acc M (by omega) (by omega) h (by omega) hk
    refine ⟨fun z => absurd ((ile (m := 16) rfl tj).mp z) (by omega), fun _ => ⟨j, tj, hj16, ?_⟩⟩
    rw [g32]
    refine ⟨fun z => stay ?_, fun z => ⟨j, tj, hj16, x, g29, hx, ?_⟩⟩
    · exact if_neg (fun w => absurd (z.symm.trans w.1) (by decide))
    · have th : mz_i m2 (32, 0) j = 1 := (z01 hNj.1).mp z
      rw [g34, g50]
      refine ⟨fun y => ⟨j, tj, hj16, ?_⟩, fun y => stay (if_neg (fun w => y w.2))⟩
      have eg : gN m2 (mz_i m2 (50, 0) x) j = nml (mz_i m2 (35, 0) j) := if_pos ⟨th, y⟩
      obtain ⟨w, hw, _, ew⟩ := nmE_w (hNj.2.2.2.1 th hj0).2.1
      rw [g35]
      refine ⟨3 + 1, mo_name_loop hs hx 3 w _ acc M ew hw h (by omega) (fun M2 h2 => ?_)⟩
      unfold wp_Mo_sendNames_89
      rw [i32_succ (n := j) rfl]
      have h2' : A2 M2 m (lu L 58 x (acc ++ nml (mz_i m2 (35, 0) j))) := h2
      refine ih (j + 1) _ M2 (by omega) (by omega) h2' (by have := nml_len (mz_i m2 (35, 0) j); rw [List.length_append]; omega) (fun M3 h3 => hk M3 ?_)
      rw [List.append_assoc] at h3
      rw [es, eg]
      exact h3
theorem dg150 : dg 150 = dgo 150 := by decide
theorem i32_back (c : Int32) : c + 1 - 1 = c := by
  have e : (1 : Int32) - 1 = 0 := by decide
  rw [Int32.add_sub_cancel]
theorem ee_snm_0 {m1 m2 : MzM} {L1 L2 : MzV} {l : List Int32} (hE : EE m1 L1 m2 L2) (r0 : mz_i m2 (53, 0) 0 = 0) (hl : 0 < l.length) : EE (mz_si m1 (16, 0) 1 1) (lu L1 17 0 l) (sd2 m2 0 (-1)) (lu L2 58 0 l) := by
  obtain ⟨s1, s2, s3, s4, s5, s6, s7, s8, s9, s10, s11, s12, s13, s14, s15, s16⟩ := hE.1
  have t16 : mz_i m2 (53, 0) 0 = 0 ∧ mz_r m1 (16, 0) 4 = none ∧ mz_i m2 (54, 0) 0 = -1 ∧ mz_i m2 (55, 0) 0 = 0 ∧ L1 17 0 = [] ∧ mz_i m1 (16, 0) 6 = 0 := by
    rcases s16 with t | ⟨t, _⟩ | ⟨t, _⟩
    · exact t
    · exact absurd (r0.symm.trans t) (by decide)
    · exact absurd (r0.symm.trans t) (by decide)
  have hxy : xyE 0 1 := Or.inl ⟨rfl, rfl⟩
  refine ⟨⟨s1, s2, s3, s4, s5, s6, s7, s8, s9, s10, s11, s12, s13, rfl, s15, Or.inr (Or.inl ⟨rfl, t16.2.2.2.1, rfl, ⟨0, hl, rfl, t16.2.2.2.2.2⟩, Or.inl ⟨t16.2.1, rfl⟩⟩)⟩, hE.2.1, hE.2.2.1, ⟨fun i hi => ?_, fun i hi => ⟨fun z => absurd z.1 (mv_zero (w := 1) rfl (by decide) i), fun z => nneg hi z.2.2⟩⟩, hE.2.2.2.2⟩
  obtain ⟨q1, q2, q3, q4⟩ := hE.2.2.2.1.1 i hi
  have n2 : ¬ mvE m2 0 i 2 := mv_zero r0 (by decide) i
  have n3 : ¬ mvE (sd2 m2 0 (-1)) 0 i 2 := mv_zero (w := 1) rfl (by decide) i
  rw [mv_or hxy] at q3 ⊢
  rw [rd_sum hxy] at q1 ⊢
  have r1 : rdE (sd2 m2 0 (-1)) 0 i = 0 := if_neg (fun z => nneg hi z.2)
  have r2 : rdE m2 0 i = 0 := rd_zero r0 (by decide) i
  have r3 : rdE (sd2 m2 0 (-1)) 1 i = rdE m2 1 i := rd_same rfl rfl i
  rw [r1, r3]
  rw [r2] at q1
  exact ⟨q1, q2, ⟨fun z => (q3.mp z).elim (fun w => absurd w n2) (fun w => Or.inr w), fun z => q3.mpr (z.elim (fun w => absurd w n3) (fun w => Or.inr w))⟩, q4⟩
theorem ee_snf_0 {m1 m2 : MzM} {L1 L2 : MzV} {n : Nat} {l : List Int32} (hE : EE m1 L1 m2 L2) (hf : filE m2 n) (hw : ¬ wrt m2 n) (r0 : mz_i m2 (53, 0) 0 = 0) (hl : 0 < l.length) : EE (sd1 m1 0 n) (lu L1 17 0 l) (sd2 m2 0 (Int32.ofNat n)) (lu L2 58 0 l) := by
  obtain ⟨s1, s2, s3, s4, s5, s6, s7, s8, s9, s10, s11, s12, s13, s14, s15, s16⟩ := hE.1
  have t16 : mz_i m2 (53, 0) 0 = 0 ∧ mz_r m1 (16, 0) 4 = none ∧ mz_i m2 (54, 0) 0 = -1 ∧ mz_i m2 (55, 0) 0 = 0 ∧ L1 17 0 = [] ∧ mz_i m1 (16, 0) 6 = 0 := by
    rcases s16 with t | ⟨t, _⟩ | ⟨t, _⟩
    · exact t
    · exact absurd (r0.symm.trans t) (by decide)
    · exact absurd (r0.symm.trans t) (by decide)
  have hxy : xyE 0 1 := Or.inl ⟨rfl, rfl⟩
  have hn := hf.1
  have kk : ∀ i q : Nat, ¬ q = 4 → mz_i (sd1 m1 0 n) (3, i) q = mz_i m1 (3, i) q := fun i q h4 => mz_ne_k (M := mz_sr (mz_si m1 (16, 0) 1 1) (16, 0) 4 (some (3, n))) h4
  have no : ∀ i : Nat, i < 16 → Int32.ofNat n = Int32.ofNat i → ¬ mvE m2 1 i 2 := by
    intro i hi e w
    have e' : n = i := ofN_inj (by omega) (by omega) e
    subst e'
    exact hw (Or.inr w)
  refine ⟨⟨s1, s2, s3, s4, s5, s6, s7, s8, s9, s10, s11, s12, s13, rfl, s15, Or.inr (Or.inl ⟨rfl, t16.2.2.2.1, rfl, ⟨0, hl, rfl, t16.2.2.2.2.2⟩, Or.inr ⟨n, hf, rfl, rfl⟩⟩)⟩, hE.2.1, fun i hi => nodeE_congr (kk i 1 (by decide)) (kk i 2 (by decide)) (kk i 3 (by decide)) (kk i 6 (by decide)) rfl rfl rfl rfl rfl rfl rfl (hE.2.2.1 i hi), ⟨fun i hi => ?_, fun i hi => ⟨fun z => absurd z.1 (mv_zero (w := 1) rfl (by decide) i), fun z => no i hi z.2.2 z.1⟩⟩, ⟨hE.2.2.2.2.1.1, hE.2.2.2.2.1.2.1, (kk 0 2 (by decide)).trans hE.2.2.2.2.1.2.2⟩, hE.2.2.2.2.2⟩
  obtain ⟨q1, q2, q3, q4⟩ := hE.2.2.2.1.1 i hi
  have n2 : ¬ mvE m2 0 i 2 := mv_zero r0 (by decide) i
  have n3 : ¬ mvE (sd2 m2 0 (Int32.ofNat n)) 0 i 2 := mv_zero (w := 1) rfl (by decide) i
  rw [mv_or hxy] at q3 ⊢
  rw [rd_sum hxy] at q1 ⊢
  have r2 : rdE m2 0 i = 0 := rd_zero r0 (by decide) i
  have r3 : rdE (sd2 m2 0 (Int32.ofNat n)) 1 i = rdE m2 1 i := rd_same rfl rfl i
  rw [r3, kk i 5 (by decide), kk i 6 (by decide)]
  rw [r2, Nat.zero_add] at q1
  refine ⟨?_, q2, ⟨fun z => (q3.mp z).elim (fun w => absurd w n2) (fun w => Or.inr w), fun z => q3.mpr (z.elim (fun w => absurd w n3) (fun w => Or.inr w))⟩, q4⟩
  by_cases hin : i = n
  · subst hin
    have r1 : rdE (sd2 m2 0 (Int32.ofNat i)) 0 i = 1 := if_pos ⟨rfl, rfl⟩
    rw [r1]
    unfold sd1
    rw [mz_i_si, if_pos ⟨rfl, rfl⟩, Nat.add_comm]
    exact i32_succ q1
  · have r1 : rdE (sd2 m2 0 (Int32.ofNat n)) 0 i = 0 := if_neg (fun z => hin (ofN_inj (by omega) (by omega) z.2).symm)
    rw [r1, Nat.zero_add]
    unfold sd1
    rw [mz_i_si, if_neg (fun z => hin (congrArg Prod.snd z.1))]
    exact q1
/-- nothing was to be sent: the transfer has ended at once -/
theorem ee_bkn_0 {m1 m2 : MzM} {L1 L2 : MzV} (hE : EE m1 L1 m2 L2) (r0 : mz_i m2 (53, 0) 0 = 0) : EE (wEnd (mz_si m1 (16, 0) 1 1) 0) (lu (lu L1 17 0 []) 17 0 []) (rEnd (sd2 m2 0 (-1)) 0) (lu L2 58 0 []) := by
  obtain ⟨s1, s2, s3, s4, s5, s6, s7, s8, s9, s10, s11, s12, s13, s14, s15, s16⟩ := hE.1
  have t16 : mz_i m2 (53, 0) 0 = 0 ∧ mz_r m1 (16, 0) 4 = none ∧ mz_i m2 (54, 0) 0 = -1 ∧ mz_i m2 (55, 0) 0 = 0 ∧ L1 17 0 = [] ∧ mz_i m1 (16, 0) 6 = 0 := by
    rcases s16 with t | ⟨t, _⟩ | ⟨t, _⟩
    · exact t
    · exact absurd (r0.symm.trans t) (by decide)
    · exact absurd (r0.symm.trans t) (by decide)
  have hE1 := ee_none_0 hE t16.2.2.1
  obtain ⟨s1, s2, s3, s4, s5, s6, s7, s8, s9, s10, s11, s12, s13, s14, s15, s16⟩ := hE1.1
  exact ⟨⟨s1, s2, s3, s4, s5, s6, s7, s8, s9, s10, s11, s12, rfl, rfl, rfl, Or.inl ⟨rfl, rfl, rfl, rfl, rfl, rfl⟩⟩, hE1.2⟩
theorem ee_bkf_0 {m1 m2 : MzM} {L1 L2 : MzV} {n : Nat} (hE : EE m1 L1 m2 L2) (r0 : mz_i m2 (53, 0) 0 = 0) : EE (wEnd (mz_si (sd1 m1 0 n) (3, n) 4 (mz_i (sd1 m1 0 n) (3, n) 4 - 1)) 0) (lu (lu L1 17 0 []) 17 0 []) (rEnd (sd2 m2 0 (Int32.ofNat n)) 0) (lu L2 58 0 []) := by
  obtain ⟨s1, s2, s3, s4, s5, s6, s7, s8, s9, s10, s11, s12, s13, s14, s15, s16⟩ := hE.1
  have t16 : mz_i m2 (53, 0) 0 = 0 ∧ mz_r m1 (16, 0) 4 = none ∧ mz_i m2 (54, 0) 0 = -1 ∧ mz_i m2 (55, 0) 0 = 0 ∧ L1 17 0 = [] ∧ mz_i m1 (16, 0) 6 = 0 := by
    rcases s16 with t | ⟨t, _⟩ | ⟨t, _⟩
    · exact t
    · exact absurd (r0.symm.trans t) (by decide)
    · exact absurd (r0.symm.trans t) (by decide)
  have hE1 := ee_none_0 hE t16.2.2.1
  obtain ⟨s1, s2, s3, s4, s5, s6, s7, s8, s9, s10, s11, s12, s13, s14, s15, s16⟩ := hE1.1
  have kk : ∀ i q : Nat, mz_i (wEnd (mz_si (sd1 m1 0 n) (3, n) 4 (mz_i (sd1 m1 0 n) (3, n) 4 - 1)) 0) (3, i) q = mz_i m1 (3, i) q := by
    intro i q
    show mz_i (mz_si (sd1 m1 0 n) (3, n) 4 (mz_i (sd1 m1 0 n) (3, n) 4 - 1)) (3, i) q = _
    unfold sd1
    rw [mz_i_si]
    by_cases hc : (3, i) = (3, n) ∧ q = 4
    · rw [if_pos hc, mz_i_si, if_pos ⟨rfl, rfl⟩, i32_back, hc.1, hc.2]
    · rw [if_neg hc, mz_i_si, if_neg hc]
      rfl
  refine ⟨⟨s1, s2, s3, s4, s5, s6, s7, s8, s9, s10, s11, s12, rfl, rfl, rfl, Or.inl ⟨rfl, rfl, rfl, rfl, rfl, rfl⟩⟩, hE1.2.1, fun i hi => nodeE_congr (kk i 1) (kk i 2) (kk i 3) (kk i 6) rfl rfl rfl rfl rfl rfl rfl (hE.2.2.1 i hi), ⟨fun i hi => ?_, hE1.2.2.2.1.2⟩, ⟨hE1.2.2.2.2.1.1, hE1.2.2.2.2.1.2.1, (kk 0 2).trans hE.2.2.2.2.1.2.2⟩, hE1.2.2.2.2.2⟩
  have q := hE1.2.2.2.1.1 i hi
  rw [kk i 4, kk i 5, kk i 6]
  exact q
/-- as finF, answered 150, and something is to be sent -/
theorem finS_0 {m1 m2 mo M1 : MzM} {no : Int32 → MzM} {LO L2O : MzV} {a : Int32} {K : MzM → Prop} (hE : ∀ cc, EE mo LO (no cc) L2O) (ha : a.toInt = ((0 : Nat) : Int)) (hs : ∀ cc, (mz_i (no cc) (30, 0) 29).toInt = ((0 : Nat) : Int)) (hf : ∀ cc, mz_i (no cc) (30, 0) 30 = 0) (ho : ∀ cc, mz_i (no cc) (39, 0) 0 = 0 ∧ mz_i (no cc) (40, 0) 0 = 0) (hcp : ∀ cc, cpF m1 m2 mo (no cc)) (hv : mz_i mo (8, 0) 16 = 150) (hne : ¬ L2O 58 0 = []) (h1 : A1 M1 mo LO) (hk : ∀ M1', (∀ (cc : Int32) (M2 : MzM) (K2 : MzM → Prop), A2 M2 (no cc) L2O → (∀ M2', OL m1 m2 0 M1' M2' → K2 M2') → wp_Mo_answer 150 M2 (bsK (clrK a K2))) → K M1') : tlA 0 K M1 := by
  refine pl_tail5 h1 hv (by decide) (by decide) (by decide) (nsp_0 (hE 0)) (fun M1' ds h1' => hk M1' (fun cc M2 K2 h2 hk2 => ?_))
  refine mo_answer h2 (hs cc) (by decide) (fun M3 h3 => ⟨0, by rw [h3.1 30 29 rfl]; exact hs cc, by decide, fun _ => mo_clr h3 ha (by decide) (fun M4 h4 => hk2 M4 ?_), fun z => ?_⟩)
  · have hq : L2O 45 0 = LO 9 0 := ((hE cc).1).2.1.symm
    rw [hq, ← dg150] at h4
    refine ⟨_, _, _, _, h1', h4, ee_line_0 (hE cc) ds _ _, hcp cc, ho cc, ⟨?_, posv hv (by decide)⟩, fun z => absurd (hv.symm.trans z) (by decide)⟩
    show mz_i mo (8, 0) 16 = fa (no cc) 150
    rw [hv, fa_0 (hf cc)]
  · obtain ⟨d1, d2, d3⟩ := h3.2 58 56 96 2 0 rfl (by decide)
    have d1' : mz_i M3 (56, 0) 0 = Int32.ofNat (L2O 58 0).length := d1
    have d2' : (L2O 58 0).length ≤ 96 := d2
    have q : ((L2O 58 0).length : Int) = 0 := (ieq (n := 0) (itn (by omega)) rfl).mp (d1'.symm.trans z)
    exact absurd (List.eq_nil_of_length_eq_zero (by omega)) hne
/-- answered 150, nothing is to be sent, and 226 follows -/
theorem finEf_0 {m1 m2 mo M1 : MzM} {no : Int32 → MzM} {LO L2O : MzV} {a : Int32} {n : Nat} {K : MzM → Prop} (hE : ∀ cc, EE (wEnd (mz_si mo (3, n) 4 (mz_i mo (3, n) 4 - 1)) 0) (lu LO 17 0 []) (rEnd (no cc) 0) L2O) (ha : a.toInt = ((0 : Nat) : Int)) (hs : ∀ cc, (mz_i (no cc) (30, 0) 29).toInt = ((0 : Nat) : Int)) (hf : ∀ cc, mz_i (no cc) (30, 0) 30 = 0) (ho : ∀ cc, mz_i (no cc) (39, 0) 0 = 0 ∧ mz_i (no cc) (40, 0) 0 = 0) (hcp : ∀ cc, cpF m1 m2 mo (no cc)) (hv : mz_i mo (8, 0) 16 = 150) (hn : n < 16) (hr : mz_r mo (16, 0) 4 = some (3, n)) (hm : mz_i mo (16, 0) 1 = 1) (h60 : mz_i mo (16, 0) 6 = 0) (h17 : LO 17 0 = []) (h58 : L2O 58 0 = []) (h53 : ∀ cc, mz_i (no cc) (53, 0) 0 = 1) (h1 : A1 M1 mo LO) (hk : ∀ M1', (∀ (cc : Int32) (M2 : MzM) (K2 : MzM → Prop), A2 M2 (no cc) L2O → (∀ M2', OL m1 m2 0 M1' M2' → K2 M2') → wp_Mo_answer 150 M2 (bsK (clrK a K2))) → K M1') : tlA 0 K M1 := by
  refine pl_startLine h1 (fun M3 h3 => ?_)
  have e3 : mz_i M3 (8, 0) 16 = 150 := (h3.1 (8, 0) 16 rfl).trans hv
  rw [e3]
  refine pl_answer5 h3 (by decide) (by decide) (fun M4 ds h4 => ?_)
  have e4 : mz_i M4 (8, 0) 16 = 150 := (h4.1 (8, 0) 16 rfl).trans hv
  refine ⟨fun _ => ?_, fun z => absurd (e4.symm.trans z) (by decide)⟩
  have g1 : mz_i M4 (16, 0) 1 = 1 := (h4.1 (16, 0) 1 rfl).trans hm
  have g6 : mz_i M4 (16, 0) 6 = 0 := (h4.1 (16, 0) 6 rfl).trans h60
  have g7 : mz_i M4 (16, 0) 7 = 0 := by
    have q2 : mz_i M4 (16, 0) 7 = Int32.ofNat (LO 17 0).length := (h4.2.2.1 17 16 7 75 0 rfl).1
    rw [q2, h17]
    rfl
  refine ⟨fun z => absurd g1 z, fun _ => ⟨fun z => absurd z (by rw [g6, g7]; decide), fun _ => ⟨fun z => absurd z (by decide), fun _ => ?_⟩⟩⟩
  refine pl_way_send h4 hn hr hm (fun M5 h5 => pl_answer5 h5 (by decide) (by decide) (fun M6 ds' h6 => hk M6 (fun cc M2 K2 h2 hk2 => ?_)))
  refine mo_answer h2 (hs cc) (by decide) (fun M7 h7 => ?_)
  have e7 : mz_i M7 (30, 0) 29 = mz_i (no cc) (30, 0) 29 := h7.1 30 29 rfl
  have s0 : (mz_i M7 (30, 0) 29).toInt = ((0 : Nat) : Int) := by rw [e7]; exact hs cc
  have g56 : mz_i M7 (56, 0) 0 = 0 := by
    have q2 : mz_i M7 (56, 0) 0 = Int32.ofNat (L2O 58 0).length := (h7.2 58 56 96 2 0 rfl (by decide)).1
    rw [q2, h58]
    rfl
  have f53 : mz_i (mz_si (no cc) (30, 0) 30 (fa (no cc) 150)) (53, 0) 0 = 1 := h53 cc
  have g53 : ¬ mz_i M7 (53, 0) 0 = 2 := by
    rw [h7.1 53 0 rfl, f53]
    decide
  refine ⟨0, s0, by decide, fun z => absurd g56 z, fun _ => ⟨0, s0, by decide, fun _ => ?_, fun z => absurd z g53⟩⟩
  refine mo_end_n h7 s0 (by decide) (fun z => absurd (f53.symm.trans z) (by decide)) (fun M8 h8 => ⟨fun _ => ?_, fun z => absurd (by decide) z⟩)
  rintro _ rfl
  rw [e7]
  refine mo_answer (h8.si (t := 30) (k := 29) (v := mz_i (no cc) (30, 0) 29) rfl) (hs cc) (by decide) (fun M9 h9 => mo_clr h9 ha (by decide) (fun M10 h10 => hk2 M10 ?_))
  obtain ⟨s1, s2, s3, s4, s5, s6, s7, s8, s9, s10, s11, s12, s13, s14, s15, s16⟩ := (hE cc).1
  refine ⟨_, _, _, _, h6, h10, ⟨⟨s1, ?_, rfl, s4, s5, rfl, s7, s8, s9, s10, s11, s12, s13, s14, s15, s16⟩, (hE cc).2⟩, hcp cc, ho cc, ⟨?_, posv hv (by decide)⟩, fun z => absurd (hv.symm.trans z) (by decide)⟩
  · have hq : LO 9 0 = L2O 45 0 := s2
    show qap (qap (LO 9 0) (dg 150 ++ [13] ++ [10])) (dg 226 ++ [13] ++ [10]) = qap (qap (L2O 45 0) (dgo 150 ++ [13] ++ [10])) (dgo 226 ++ [13] ++ [10])
    rw [hq, dg150, dg226]
  · show mz_i mo (8, 0) 16 = fa (mz_si (rEnd (mz_si (no cc) (30, 0) 30 (fa (no cc) 150)) 0) (30, 0) 29 (mz_i (no cc) (30, 0) 29)) 226
    have f1 : fa (no cc) 150 = 150 := fa_0 (hf cc)
    rw [hv, f1]
    show (150 : Int32) = fa (mz_si (rEnd (mz_si (no cc) (30, 0) 30 150) 0) (30, 0) 29 (mz_i (no cc) (30, 0) 29)) 226
    exact (if_neg (by show ¬ (150 : Int32) = 0; decide)).symm
/-- answered 150, nothing is to be sent, and 226 follows -/
theorem finEn_0 {m1 m2 mo M1 : MzM} {no : Int32 → MzM} {LO L2O : MzV} {a : Int32} {n : Nat} {K : MzM → Prop} (hE : ∀ cc, EE (wEnd mo 0) (lu LO 17 0 []) (rEnd (no cc) 0) L2O) (ha : a.toInt = ((0 : Nat) : Int)) (hs : ∀ cc, (mz_i (no cc) (30, 0) 29).toInt = ((0 : Nat) : Int)) (hf : ∀ cc, mz_i (no cc) (30, 0) 30 = 0) (ho : ∀ cc, mz_i (no cc) (39, 0) 0 = 0 ∧ mz_i (no cc) (40, 0) 0 = 0) (hcp : ∀ cc, cpF m1 m2 mo (no cc)) (hv : mz_i mo (8, 0) 16 = 150) (hr : mz_r mo (16, 0) 4 = none) (hm : mz_i mo (16, 0) 1 = 1) (h60 : mz_i mo (16, 0) 6 = 0) (h17 : LO 17 0 = []) (h58 : L2O 58 0 = []) (h53 : ∀ cc, mz_i (no cc) (53, 0) 0 = 1) (h1 : A1 M1 mo LO) (hk : ∀ M1', (∀ (cc : Int32) (M2 : MzM) (K2 : MzM → Prop), A2 M2 (no cc) L2O → (∀ M2', OL m1 m2 0 M1' M2' → K2 M2') → wp_Mo_answer 150 M2 (bsK (clrK a K2))) → K M1') : tlA 0 K M1 := by
  refine pl_startLine h1 (fun M3 h3 => ?_)
  have e3 : mz_i M3 (8, 0) 16 = 150 := (h3.1 (8, 0) 16 rfl).trans hv
  rw [e3]
  refine pl_answer5 h3 (by decide) (by decide) (fun M4 ds h4 => ?_)
  have e4 : mz_i M4 (8, 0) 16 = 150 := (h4.1 (8, 0) 16 rfl).trans hv
  refine ⟨fun _ => ?_, fun z => absurd (e4.symm.trans z) (by decide)⟩
  have g1 : mz_i M4 (16, 0) 1 = 1 := (h4.1 (16, 0) 1 rfl).trans hm
  have g6 : mz_i M4 (16, 0) 6 = 0 := (h4.1 (16, 0) 6 rfl).trans h60
  have g7 : mz_i M4 (16, 0) 7 = 0 := by
    have q2 : mz_i M4 (16, 0) 7 = Int32.ofNat (LO 17 0).length := (h4.2.2.1 17 16 7 75 0 rfl).1
    rw [q2, h17]
    rfl
  refine ⟨fun z => absurd g1 z, fun _ => ⟨fun z => absurd z (by rw [g6, g7]; decide), fun _ => ⟨fun z => absurd z (by decide), fun _ => ?_⟩⟩⟩
  refine pl_way_none h4 hr (fun M5 h5 => pl_answer5 h5 (by decide) (by decide) (fun M6 ds' h6 => hk M6 (fun cc M2 K2 h2 hk2 => ?_)))
  refine mo_answer h2 (hs cc) (by decide) (fun M7 h7 => ?_)
  have e7 : mz_i M7 (30, 0) 29 = mz_i (no cc) (30, 0) 29 := h7.1 30 29 rfl
  have s0 : (mz_i M7 (30, 0) 29).toInt = ((0 : Nat) : Int) := by rw [e7]; exact hs cc
  have g56 : mz_i M7 (56, 0) 0 = 0 := by
    have q2 : mz_i M7 (56, 0) 0 = Int32.ofNat (L2O 58 0).length := (h7.2 58 56 96 2 0 rfl (by decide)).1
    rw [q2, h58]
    rfl
  have f53 : mz_i (mz_si (no cc) (30, 0) 30 (fa (no cc) 150)) (53, 0) 0 = 1 := h53 cc
  have g53 : ¬ mz_i M7 (53, 0) 0 = 2 := by
    rw [h7.1 53 0 rfl, f53]
    decide
  refine ⟨0, s0, by decide, fun z => absurd g56 z, fun _ => ⟨0, s0, by decide, fun _ => ?_, fun z => absurd z g53⟩⟩
  refine mo_end_n h7 s0 (by decide) (fun z => absurd (f53.symm.trans z) (by decide)) (fun M8 h8 => ⟨fun _ => ?_, fun z => absurd (by decide) z⟩)
  rintro _ rfl
  rw [e7]
  refine mo_answer (h8.si (t := 30) (k := 29) (v := mz_i (no cc) (30, 0) 29) rfl) (hs cc) (by decide) (fun M9 h9 => mo_clr h9 ha (by decide) (fun M10 h10 => hk2 M10 ?_))
  obtain ⟨s1, s2, s3, s4, s5, s6, s7, s8, s9, s10, s11, s12, s13, s14, s15, s16⟩ := (hE cc).1
  refine ⟨_, _, _, _, h6, h10, ⟨⟨s1, ?_, rfl, s4, s5, rfl, s7, s8, s9, s10, s11, s12, s13, s14, s15, s16⟩, (hE cc).2⟩, hcp cc, ho cc, ⟨?_, posv hv (by decide)⟩, fun z => absurd (hv.symm.trans z) (by decide)⟩
  · have hq : LO 9 0 = L2O 45 0 := s2
    show qap (qap (LO 9 0) (dg 150 ++ [13] ++ [10])) (dg 226 ++ [13] ++ [10]) = qap (qap (L2O 45 0) (dgo 150 ++ [13] ++ [10])) (dgo 226 ++ [13] ++ [10])
    rw [hq, dg150, dg226]
  · show mz_i mo (8, 0) 16 = fa (mz_si (rEnd (mz_si (no cc) (30, 0) 30 (fa (no cc) 150)) 0) (30, 0) 29 (mz_i (no cc) (30, 0) 29)) 226
    have f1 : fa (no cc) 150 = 150 := fa_0 (hf cc)
    rw [hv, f1]
    show (150 : Int32) = fa (mz_si (rEnd (mz_si (no cc) (30, 0) 30 150) 0) (30, 0) 29 (mz_i (no cc) (30, 0) 29)) 226
    exact (if_neg (by show ¬ (150 : Int32) = 0; decide)).symm
theorem ee_snm_1 {m1 m2 : MzM} {L1 L2 : MzV} {l : List Int32} (hE : EE m1 L1 m2 L2) (r0 : mz_i m2 (53, 0) 1 = 0) (hl : 0 < l.length) : EE (mz_si m1 (16, 1) 1 1) (lu L1 17 1 l) (sd2 m2 1 (-1)) (lu L2 58 1 l) := by
  obtain ⟨s1, s2, s3, s4, s5, s6, s7, s8, s9, s10, s11, s12, s13, s14, s15, s16⟩ := hE.2.1
  have t16 : mz_i m2 (53, 0) 1 = 0 ∧ mz_r m1 (16, 1) 4 = none ∧ mz_i m2 (54, 0) 1 = -1 ∧ mz_i m2 (55, 0) 1 = 0 ∧ L1 17 1 = [] ∧ mz_i m1 (16, 1) 6 = 0 := by
    rcases s16 with t | ⟨t, _⟩ | ⟨t, _⟩
    · exact t
    · exact absurd (r0.symm.trans t) (by decide)
    · exact absurd (r0.symm.trans t) (by decide)
  have hxy : xyE 1 0 := Or.inr ⟨rfl, rfl⟩
  refine ⟨hE.1, ⟨s1, s2, s3, s4, s5, s6, s7, s8, s9, s10, s11, s12, s13, rfl, s15, Or.inr (Or.inl ⟨rfl, t16.2.2.2.1, rfl, ⟨0, hl, rfl, t16.2.2.2.2.2⟩, Or.inl ⟨t16.2.1, rfl⟩⟩)⟩, hE.2.2.1, ⟨fun i hi => ?_, fun i hi => ⟨fun z => z.2.elim (fun w => nneg hi w.2) (fun w => absurd w (mv_zero (w := 1) rfl (by decide) i)), fun z => absurd z.1 (mv_zero (w := 1) rfl (by decide) i)⟩⟩, hE.2.2.2.2⟩
  obtain ⟨q1, q2, q3, q4⟩ := hE.2.2.2.1.1 i hi
  have n2 : ¬ mvE m2 1 i 2 := mv_zero r0 (by decide) i
  have n3 : ¬ mvE (sd2 m2 1 (-1)) 1 i 2 := mv_zero (w := 1) rfl (by decide) i
  rw [mv_or hxy] at q3 ⊢
  rw [rd_sum hxy] at q1 ⊢
  have r1 : rdE (sd2 m2 1 (-1)) 1 i = 0 := if_neg (fun z => nneg hi z.2)
  have r2 : rdE m2 1 i = 0 := rd_zero r0 (by decide) i
  have r3 : rdE (sd2 m2 1 (-1)) 0 i = rdE m2 0 i := rd_same rfl rfl i
  rw [r1, r3]
  rw [r2] at q1
  exact ⟨q1, q2, ⟨fun z => (q3.mp z).elim (fun w => absurd w n2) (fun w => Or.inr w), fun z => q3.mpr (z.elim (fun w => absurd w n3) (fun w => Or.inr w))⟩, q4⟩
theorem ee_snf_1 {m1 m2 : MzM} {L1 L2 : MzV} {n : Nat} {l : List Int32} (hE : EE m1 L1 m2 L2) (hf : filE m2 n) (hw : ¬ wrt m2 n) (r0 : mz_i m2 (53, 0) 1 = 0) (hl : 0 < l.length) : EE (sd1 m1 1 n) (lu L1 17 1 l) (sd2 m2 1 (Int32.ofNat n)) (lu L2 58 1 l) := by
  obtain ⟨s1, s2, s3, s4, s5, s6, s7, s8, s9, s10, s11, s12, s13, s14, s15, s16⟩ := hE.2.1
  have t16 : mz_i m2 (53, 0) 1 = 0 ∧ mz_r m1 (16, 1) 4 = none ∧ mz_i m2 (54, 0) 1 = -1 ∧ mz_i m2 (55, 0) 1 = 0 ∧ L1 17 1 = [] ∧ mz_i m1 (16, 1) 6 = 0 := by
    rcases s16 with t | ⟨t, _⟩ | ⟨t, _⟩
    · exact t
    · exact absurd (r0.symm.trans t) (by decide)
    · exact absurd (r0.symm.trans t) (by decide)
  have hxy : xyE 1 0 := Or.inr ⟨rfl, rfl⟩
  have hn := hf.1
  have kk : ∀ i q : Nat, ¬ q = 4 → mz_i (sd1 m1 1 n) (3, i) q = mz_i m1 (3, i) q := fun i q h4 => mz_ne_k (M := mz_sr (mz_si m1 (16, 1) 1 1) (16, 1) 4 (some (3, n))) h4
  have no : ∀ i : Nat, i < 16 → Int32.ofNat n = Int32.ofNat i → ¬ mvE m2 0 i 2 := by
    intro i hi e w
    have e' : n = i := ofN_inj (by omega) (by omega) e
    subst e'
    exact hw (Or.inl w)
  refine ⟨hE.1, ⟨s1, s2, s3, s4, s5, s6, s7, s8, s9, s10, s11, s12, s13, rfl, s15, Or.inr (Or.inl ⟨rfl, t16.2.2.2.1, rfl, ⟨0, hl, rfl, t16.2.2.2.2.2⟩, Or.inr ⟨n, hf, rfl, rfl⟩⟩)⟩, fun i hi => nodeE_congr (kk i 1 (by decide)) (kk i 2 (by decide)) (kk i 3 (by decide)) (kk i 6 (by decide)) rfl rfl rfl rfl rfl rfl rfl (hE.2.2.1 i hi), ⟨fun i hi => ?_, fun i hi => ⟨fun z => z.2.elim (fun w => no i hi w.2 z.1) (fun w => absurd w (mv_zero (w := 1) rfl (by decide) i)), fun z => absurd z.1 (mv_zero (w := 1) rfl (by decide) i)⟩⟩, ⟨hE.2.2.2.2.1.1, hE.2.2.2.2.1.2.1, (kk 0 2 (by decide)).trans hE.2.2.2.2.1.2.2⟩, hE.2.2.2.2.2⟩
  obtain ⟨q1, q2, q3, q4⟩ := hE.2.2.2.1.1 i hi
  have n2 : ¬ mvE m2 1 i 2 := mv_zero r0 (by decide) i
  have n3 : ¬ mvE (sd2 m2 1 (Int32.ofNat n)) 1 i 2 := mv_zero (w := 1) rfl (by decide) i
  rw [mv_or hxy] at q3 ⊢
  rw [rd_sum hxy] at q1 ⊢
  have r2 : rdE m2 1 i = 0 := rd_zero r0 (by decide) i
  have r3 : rdE (sd2 m2 1 (Int32.ofNat n)) 0 i = rdE m2 0 i := rd_same rfl rfl i
  rw [r3, kk i 5 (by decide), kk i 6 (by decide)]
  rw [r2, Nat.zero_add] at q1
  refine ⟨?_, q2, ⟨fun z => (q3.mp z).elim (fun w => absurd w n2) (fun w => Or.inr w), fun z => q3.mpr (z.elim (fun w => absurd w n3) (fun w => Or.inr w))⟩, q4⟩
  by_cases hin : i = n
  · subst hin
    have r1 : rdE (sd2 m2 1 (Int32.ofNat i)) 1 i = 1 := if_pos ⟨rfl, rfl⟩
    rw [r1]
    unfold sd1
    rw [mz_i_si, if_pos ⟨rfl, rfl⟩, Nat.add_comm]
    exact i32_succ q1
  · have r1 : rdE (sd2 m2 1 (Int32.ofNat n)) 1 i = 0 := if_neg (fun z => hin (ofN_inj (by omega) (by omega) z.2).symm)
    rw [r1, Nat.zero_add]
    unfold sd1
    rw [mz_i_si, if_neg (fun z => hin (congrArg Prod.snd z.1))]
    exact q1
/-- nothing was to be sent: the transfer has ended at once -/
theorem ee_bkn_1 {m1 m2 : MzM} {L1 L2 : MzV} (hE : EE m1 L1 m2 L2) (r0 : mz_i m2 (53, 0) 1 = 0) : EE (wEnd (mz_si m1 (16, 1) 1 1) 1) (lu (lu L1 17 1 []) 17 1 []) (rEnd (sd2 m2 1 (-1)) 1) (lu L2 58 1 []) := by
  obtain ⟨s1, s2, s3, s4, s5, s6, s7, s8, s9, s10, s11, s12, s13, s14, s15, s16⟩ := hE.2.1
  have t16 : mz_i m2 (53, 0) 1 = 0 ∧ mz_r m1 (16, 1) 4 = none ∧ mz_i m2 (54, 0) 1 = -1 ∧ mz_i m2 (55, 0) 1 = 0 ∧ L1 17 1 = [] ∧ mz_i m1 (16, 1) 6 = 0 := by
    rcases s16 with t | ⟨t, _⟩ | ⟨t, _⟩
    · exact t
    · exact absurd (r0.symm.trans t) (by decide)
    · exact absurd (r0.symm.trans t) (by decide)
  have hE1 := ee_none_1 hE t16.2.2.1
  obtain ⟨s1, s2, s3, s4, s5, s6, s7, s8, s9, s10, s11, s12, s13, s14, s15, s16⟩ := hE1.2.1
  exact ⟨hE1.1, ⟨s1, s2, s3, s4, s5, s6, s7, s8, s9, s10, s11, s12, rfl, rfl, rfl, Or.inl ⟨rfl, rfl, rfl, rfl, rfl, rfl⟩⟩, hE1.2.2⟩
theorem ee_bkf_1 {m1 m2 : MzM} {L1 L2 : MzV} {n : Nat} (hE : EE m1 L1 m2 L2) (r0 : mz_i m2 (53, 0) 1 = 0) : EE (wEnd (mz_si (sd1 m1 1 n) (3, n) 4 (mz_i (sd1 m1 1 n) (3, n) 4 - 1)) 1) (lu (lu L1 17 1 []) 17 1 []) (rEnd (sd2 m2 1 (Int32.ofNat n)) 1) (lu L2 58 1 []) := by
  obtain ⟨s1, s2, s3, s4, s5, s6, s7, s8, s9, s10, s11, s12, s13, s14, s15, s16⟩ := hE.2.1
  have t16 : mz_i m2 (53, 0) 1 = 0 ∧ mz_r m1 (16, 1) 4 = none ∧ mz_i m2 (54, 0) 1 = -1 ∧ mz_i m2 (55, 0) 1 = 0 ∧ L1 17 1 = [] ∧ mz_i m1 (16, 1) 6 = 0 := by
    rcases s16 with t | ⟨t, _⟩ | ⟨t, _⟩
    · exact t
    · exact absurd (r0.symm.trans t) (by decide)
    · exact absurd (r0.symm.trans t) (by decide)
  have hE1 := ee_none_1 hE t16.2.2.1
  obtain ⟨s1, s2, s3, s4, s5, s6, s7, s8, s9, s10, s11, s12, s13, s14, s15, s16⟩ := hE1.2.1
  have kk : ∀ i q : Nat, mz_i (wEnd (mz_si (sd1 m1 1 n) (3, n) 4 (mz_i (sd1 m1 1 n) (3, n) 4 - 1)) 1) (3, i) q = mz_i m1 (3, i) q := by
    intro i q
    show mz_i (mz_si (sd1 m1 1 n) (3, n) 4 (mz_i (sd1 m1 1 n) (3, n) 4 - 1)) (3, i) q = _
    unfold sd1
    rw [mz_i_si]
    by_cases hc : (3, i) = (3, n) ∧ q = 4
    · rw [if_pos hc, mz_i_si, if_pos ⟨rfl, rfl⟩, i32_back, hc.1, hc.2]
    · rw [if_neg hc, mz_i_si, if_neg hc]
      rfl
  refine ⟨hE1.1, ⟨s1, s2, s3, s4, s5, s6, s7, s8, s9, s10, s11, s12, rfl, rfl, rfl, Or.inl ⟨rfl, rfl, rfl, rfl, rfl, rfl⟩⟩, fun i hi => nodeE_congr (kk i 1) (kk i 2) (kk i 3) (kk i 6) rfl rfl rfl rfl rfl rfl rfl (hE.2.2.1 i hi), ⟨fun i hi => ?_, hE1.2.2.2.1.2⟩, ⟨hE1.2.2.2.2.1.1, hE1.2.2.2.2.1.2.1, (kk 0 2).trans hE.2.2.2.2.1.2.2⟩, hE1.2.2.2.2.2⟩
  have q := hE1.2.2.2.1.1 i hi
  rw [kk i 4, kk i 5, kk i 6]
  exact q
/-- as finF, answered 150, and something is to be sent -/
theorem finS_1 {m1 m2 mo M1 : MzM} {no : Int32 → MzM} {LO L2O : MzV} {a : Int32} {K : MzM → Prop} (hE : ∀ cc, EE mo LO (no cc) L2O) (ha : a.toInt = ((1 : Nat) : Int)) (hs : ∀ cc, (mz_i (no cc) (30, 0) 29).toInt = ((1 : Nat) : Int)) (hf : ∀ cc, mz_i (no cc) (30, 0) 30 = 0) (ho : ∀ cc, mz_i (no cc) (39, 0) 1 = 0 ∧ mz_i (no cc) (40, 0) 1 = 0) (hcp : ∀ cc, cpF m1 m2 mo (no cc)) (hv : mz_i mo (8, 1) 16 = 150) (hne : ¬ L2O 58 1 = []) (h1 : A1 M1 mo LO) (hk : ∀ M1', (∀ (cc : Int32) (M2 : MzM) (K2 : MzM → Prop), A2 M2 (no cc) L2O → (∀ M2', OL m1 m2 1 M1' M2' → K2 M2') → wp_Mo_answer 150 M2 (bsK (clrK a K2))) → K M1') : tlA 1 K M1 := by
  refine pl_tail5 h1 hv (by decide) (by decide) (by decide) (nsp_1 (hE 0)) (fun M1' ds h1' => hk M1' (fun cc M2 K2 h2 hk2 => ?_))
  refine mo_answer h2 (hs cc) (by decide) (fun M3 h3 => ⟨1, by rw [h3.1 30 29 rfl]; exact hs cc, by decide, fun _ => mo_clr h3 ha (by decide) (fun M4 h4 => hk2 M4 ?_), fun z => ?_⟩)
  · have hq : L2O 45 1 = LO 9 1 := ((hE cc).2.1).2.1.symm
    rw [hq, ← dg150] at h4
    refine ⟨_, _, _, _, h1', h4, ee_line_1 (hE cc) ds _ _, hcp cc, ho cc, ⟨?_, posv hv (by decide)⟩, fun z => absurd (hv.symm.trans z) (by decide)⟩
    show mz_i mo (8, 1) 16 = fa (no cc) 150
    rw [hv, fa_0 (hf cc)]
  · obtain ⟨d1, d2, d3⟩ := h3.2 58 56 96 2 1 rfl (by decide)
    have d1' : mz_i M3 (56, 0) 1 = Int32.ofNat (L2O 58 1).length := d1
    have d2' : (L2O 58 1).length ≤ 96 := d2
    have q : ((L2O 58 1).length : Int) = 0 := (ieq (n := 0) (itn (by omega)) rfl).mp (d1'.symm.trans z)
    exact absurd (List.eq_nil_of_length_eq_zero (by omega)) hne
/-- answered 150, nothing is to be sent, and 226 follows -/
theorem finEf_1 {m1 m2 mo M1 : MzM} {no : Int32 → MzM} {LO L2O : MzV} {a : Int32} {n : Nat} {K : MzM → Prop} (hE : ∀ cc, EE (wEnd (mz_si mo (3, n) 4 (mz_i mo (3, n) 4 - 1)) 1) (lu LO 17 1 []) (rEnd (no cc) 1) L2O) (ha : a.toInt = ((1 : Nat) : Int)) (hs : ∀ cc, (mz_i (no cc) (30, 0) 29).toInt = ((1 : Nat) : Int)) (hf : ∀ cc, mz_i (no cc) (30, 0) 30 = 0) (ho : ∀ cc, mz_i (no cc) (39, 0) 1 = 0 ∧ mz_i (no cc) (40, 0) 1 = 0) (hcp : ∀ cc, cpF m1 m2 mo (no cc)) (hv : mz_i mo (8, 1) 16 = 150) (hn : n < 16) (hr : mz_r mo (16, 1) 4 = some (3, n)) (hm : mz_i mo (16, 1) 1 = 1) (h60 : mz_i mo (16, 1) 6 = 0) (h17 : LO 17 1 = []) (h58 : L2O 58 1 = []) (h53 : ∀ cc, mz_i (no cc) (53, 0) 1 = 1) (h1 : A1 M1 mo LO) (hk : ∀ M1', (∀ (cc : Int32) (M2 : MzM) (K2 : MzM → Prop), A2 M2 (no cc) L2O → (∀ M2', OL m1 m2 1 M1' M2' → K2 M2') → wp_Mo_answer 150 M2 (bsK (clrK a K2))) → K M1') : tlA 1 K M1 := by
  refine pl_startLine h1 (fun M3 h3 => ?_)
  have e3 : mz_i M3 (8, 1) 16 = 150 := (h3.1 (8, 1) 16 rfl).trans hv
  rw [e3]
  refine pl_answer5 h3 (by decide) (by decide) (fun M4 ds h4 => ?_)
  have e4 : mz_i M4 (8, 1) 16 = 150 := (h4.1 (8, 1) 16 rfl).trans hv
  refine ⟨fun _ => ?_, fun z => absurd (e4.symm.trans z) (by decide)⟩
  have g1 : mz_i M4 (16, 1) 1 = 1 := (h4.1 (16, 1) 1 rfl).trans hm
  have g6 : mz_i M4 (16, 1) 6 = 0 := (h4.1 (16, 1) 6 rfl).trans h60
  have g7 : mz_i M4 (16, 1) 7 = 0 := by
    have q2 : mz_i M4 (16, 1) 7 = Int32.ofNat (LO 17 1).length := (h4.2.2.1 17 16 7 75 1 rfl).1
    rw [q2, h17]
    rfl
  refine ⟨fun z => absurd g1 z, fun _ => ⟨fun z => absurd z (by rw [g6, g7]; decide), fun _ => ⟨fun z => absurd z (by decide), fun _ => ?_⟩⟩⟩
  refine pl_way_send h4 hn hr hm (fun M5 h5 => pl_answer5 h5 (by decide) (by decide) (fun M6 ds' h6 => hk M6 (fun cc M2 K2 h2 hk2 => ?_)))
  refine mo_answer h2 (hs cc) (by decide) (fun M7 h7 => ?_)
  have e7 : mz_i M7 (30, 0) 29 = mz_i (no cc) (30, 0) 29 := h7.1 30 29 rfl
  have s0 : (mz_i M7 (30, 0) 29).toInt = ((1 : Nat) : Int) := by rw [e7]; exact hs cc
  have g56 : mz_i M7 (56, 0) 1 = 0 := by
    have q2 : mz_i M7 (56, 0) 1 = Int32.ofNat (L2O 58 1).length := (h7.2 58 56 96 2 1 rfl (by decide)).1
    rw [q2, h58]
    rfl
  have f53 : mz_i (mz_si (no cc) (30, 0) 30 (fa (no cc) 150)) (53, 0) 1 = 1 := h53 cc
  have g53 : ¬ mz_i M7 (53, 0) 1 = 2 := by
    rw [h7.1 53 1 rfl, f53]
    decide
  refine ⟨1, s0, by decide, fun z => absurd g56 z, fun _ => ⟨1, s0, by decide, fun _ => ?_, fun z => absurd z g53⟩⟩
  refine mo_end_n h7 s0 (by decide) (fun z => absurd (f53.symm.trans z) (by decide)) (fun M8 h8 => ⟨fun _ => ?_, fun z => absurd (by decide) z⟩)
  rintro _ rfl
  rw [e7]
  refine mo_answer (h8.si (t := 30) (k := 29) (v := mz_i (no cc) (30, 0) 29) rfl) (hs cc) (by decide) (fun M9 h9 => mo_clr h9 ha (by decide) (fun M10 h10 => hk2 M10 ?_))
  obtain ⟨s1, s2, s3, s4, s5, s6, s7, s8, s9, s10, s11, s12, s13, s14, s15, s16⟩ := (hE cc).2.1
  refine ⟨_, _, _, _, h6, h10, ⟨(hE cc).1, ⟨s1, ?_, rfl, s4, s5, rfl, s7, s8, s9, s10, s11, s12, s13, s14, s15, s16⟩, (hE cc).2.2⟩, hcp cc, ho cc, ⟨?_, posv hv (by decide)⟩, fun z => absurd (hv.symm.trans z) (by decide)⟩
  · have hq : LO 9 1 = L2O 45 1 := s2
    show qap (qap (LO 9 1) (dg 150 ++ [13] ++ [10])) (dg 226 ++ [13] ++ [10]) = qap (qap (L2O 45 1) (dgo 150 ++ [13] ++ [10])) (dgo 226 ++ [13] ++ [10])
    rw [hq, dg150, dg226]
  · show mz_i mo (8, 1) 16 = fa (mz_si (rEnd (mz_si (no cc) (30, 0) 30 (fa (no cc) 150)) 1) (30, 0) 29 (mz_i (no cc) (30, 0) 29)) 226
    have f1 : fa (no cc) 150 = 150 := fa_0 (hf cc)
    rw [hv, f1]
    show (150 : Int32) = fa (mz_si (rEnd (mz_si (no cc) (30, 0) 30 150) 1) (30, 0) 29 (mz_i (no cc) (30, 0) 29)) 226
    exact (if_neg (by show ¬ (150 : Int32) = 0; decide)).symm
/-- answered 150, nothing is to be sent, and 226 follows -/
theorem finEn_1 {m1 m2 mo M1 : MzM} {no : Int32 → MzM} {LO L2O : MzV} {a : Int32} {n : Nat} {K : MzM → Prop} (hE : ∀ cc, EE (wEnd mo 1) (lu LO 17 1 []) (rEnd (no cc) 1) L2O) (ha : a.toInt = ((1 : Nat) : Int)) (hs : ∀ cc, (mz_i (no cc) (30, 0) 29).toInt = ((1 : Nat) : Int)) (hf : ∀ cc, mz_i (no cc) (30, 0) 30 = 0) (ho : ∀ cc, mz_i (no cc) (39, 0) 1 = 0 ∧ mz_i (no cc) (40, 0) 1 = 0) (hcp : ∀ cc, cpF m1 m2 mo (no cc)) (hv : mz_i mo (8, 1) 16 = 150) (hr : mz_r mo (16, 1) 4 = none) (hm : mz_i mo (16, 1) 1 = 1) (h60 : mz_i mo (16, 1) 6 = 0) (h17 : LO 17 1 = []) (h58 : L2O 58 1 = []) (h53 : ∀ cc, mz_i (no cc) (53, 0) 1 = 1) (h1 : A1 M1 mo LO) (hk : ∀ M1', (∀ (cc : Int32) (M2 : MzM) (K2 : MzM → Prop), A2 M2 (no cc) L2O → (∀ M2', OL m1 m2 1 M1' M2' → K2 M2') → wp_Mo_answer 150 M2 (bsK (clrK a K2))) → K M1') : tlA 1 K M1 := by
  refine pl_startLine h1 (fun M3 h3 => ?_)
  have e3 : mz_i M3 (8, 1) 16 = 150 := (h3.1 (8, 1) 16 rfl).trans hv
  rw [e3]
  refine pl_answer5 h3 (by decide) (by decide) (fun M4 ds h4 => ?_)
  have e4 : mz_i M4 (8, 1) 16 = 150 := (h4.1 (8, 1) 16 rfl).trans hv
  refine ⟨fun _ => ?_, fun z => absurd (e4.symm.trans z) (by decide)⟩
  have g1 : mz_i M4 (16, 1) 1 = 1 := (h4.1 (16, 1) 1 rfl).trans hm
  have g6 : mz_i M4 (16, 1) 6 = 0 := (h4.1 (16, 1) 6 rfl).trans h60
  have g7 : mz_i M4 (16, 1) 7 = 0 := by
    have q2 : mz_i M4 (16, 1) 7 = Int32.ofNat (LO 17 1).length := (h4.2.2.1 17 16 7 75 1 rfl).1
    rw [q2, h17]
    rfl
  refine ⟨fun z => absurd g1 z, fun _ => ⟨fun z => absurd z (by rw [g6, g7]; decide), fun _ => ⟨fun z => absurd z (by decide), fun _ => ?_⟩⟩⟩
  refine pl_way_none h4 hr (fun M5 h5 => pl_answer5 h5 (by decide) (by decide) (fun M6 ds' h6 => hk M6 (fun cc M2 K2 h2 hk2 => ?_)))
  refine mo_answer h2 (hs cc) (by decide) (fun M7 h7 => ?_)
  have e7 : mz_i M7 (30, 0) 29 = mz_i (no cc) (30, 0) 29 := h7.1 30 29 rfl
  have s0 : (mz_i M7 (30, 0) 29).toInt = ((1 : Nat) : Int) := by rw [e7]; exact hs cc
  have g56 : mz_i M7 (56, 0) 1 = 0 := by
    have q2 : mz_i M7 (56, 0) 1 = Int32.ofNat (L2O 58 1).length := (h7.2 58 56 96 2 1 rfl (by decide)).1
    rw [q2, h58]
    rfl
  have f53 : mz_i (mz_si (no cc) (30, 0) 30 (fa (no cc) 150)) (53, 0) 1 = 1 := h53 cc
  have g53 : ¬ mz_i M7 (53, 0) 1 = 2 := by
    rw [h7.1 53 1 rfl, f53]
    decide
  refine ⟨1, s0, by decide, fun z => absurd g56 z, fun _ => ⟨1, s0, by decide, fun _ => ?_, fun z => absurd z g53⟩⟩
  refine mo_end_n h7 s0 (by decide) (fun z => absurd (f53.symm.trans z) (by decide)) (fun M8 h8 => ⟨fun _ => ?_, fun z => absurd (by decide) z⟩)
  rintro _ rfl
  rw [e7]
  refine mo_answer (h8.si (t := 30) (k := 29) (v := mz_i (no cc) (30, 0) 29) rfl) (hs cc) (by decide) (fun M9 h9 => mo_clr h9 ha (by decide) (fun M10 h10 => hk2 M10 ?_))
  obtain ⟨s1, s2, s3, s4, s5, s6, s7, s8, s9, s10, s11, s12, s13, s14, s15, s16⟩ := (hE cc).2.1
  refine ⟨_, _, _, _, h6, h10, ⟨(hE cc).1, ⟨s1, ?_, rfl, s4, s5, rfl, s7, s8, s9, s10, s11, s12, s13, s14, s15, s16⟩, (hE cc).2.2⟩, hcp cc, ho cc, ⟨?_, posv hv (by decide)⟩, fun z => absurd (hv.symm.trans z) (by decide)⟩
  · have hq : LO 9 1 = L2O 45 1 := s2
    show qap (qap (LO 9 1) (dg 150 ++ [13] ++ [10])) (dg 226 ++ [13] ++ [10]) = qap (qap (L2O 45 1) (dgo 150 ++ [13] ++ [10])) (dgo 226 ++ [13] ++ [10])
    rw [hq, dg150, dg226]
  · show mz_i mo (8, 1) 16 = fa (mz_si (rEnd (mz_si (no cc) (30, 0) 30 (fa (no cc) 150)) 1) (30, 0) 29 (mz_i (no cc) (30, 0) 29)) 226
    have f1 : fa (no cc) 150 = 150 := fa_0 (hf cc)
    rw [hv, f1]
    show (150 : Int32) = fa (mz_si (rEnd (mz_si (no cc) (30, 0) 30 150) 1) (30, 0) 29 (mz_i (no cc) (30, 0) 29)) 226
    exact (if_neg (by show ¬ (150 : Int32) = 0; decide)).symm
