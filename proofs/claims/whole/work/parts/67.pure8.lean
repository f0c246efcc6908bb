/-- a row's tag in the reference: its length's tag, its room, how many there are -/
def tb2 (t : Nat) : Option (Nat × Nat × Nat) := match t with
  | 38 => some (36, 24, 16)
  | 43 => some (41, 30, 2)
  | 45 => some (44, 200, 2)
  | 58 => some (56, 96, 2)
  | 60 => some (59, 24, 3)
  | _ => none
def vis2 (t : Nat) : Bool := !([36, 38, 41, 43, 44, 45, 56, 58, 59, 60].contains t)
theorem tb2_cases {t a c n : Nat} (h : tb2 t = some (a, c, n)) : (t = 38 ∧ a = 36 ∧ c = 24 ∧ n = 16) ∨ (t = 43 ∧ a = 41 ∧ c = 30 ∧ n = 2) ∨ (t = 45 ∧ a = 44 ∧ c = 200 ∧ n = 2) ∨ (t = 58 ∧ a = 56 ∧ c = 96 ∧ n = 2) ∨ (t = 60 ∧ a = 59 ∧ c = 24 ∧ n = 3) := by
  unfold tb2 at h
  split at h
  all_goals first
    | (simp only [Option.some.injEq, Prod.mk.injEq] at h; omega)
    | exact absurd h (by simp)
theorem tb2_vis {t a c n : Nat} (h : tb2 t = some (a, c, n)) : vis2 a = false ∧ vis2 t = false := by
  rcases tb2_cases h with ⟨rfl, rfl, rfl, rfl⟩ | ⟨rfl, rfl, rfl, rfl⟩ | ⟨rfl, rfl, rfl, rfl⟩ | ⟨rfl, rfl, rfl, rfl⟩ | ⟨rfl, rfl, rfl, rfl⟩ <;> exact ⟨rfl, rfl⟩
theorem tb2_cell {t a c n t' a' c' n' : Nat} (h : tb2 t = some (a, c, n)) (h' : tb2 t' = some (a', c', n')) : t ≠ a' := by
  have q1 := tb2_cases h
  have q2 := tb2_cases h'
  omega
theorem tb2_inj {t a c n t' a' c' n' : Nat} (h : tb2 t = some (a, c, n)) (h' : tb2 t' = some (a', c', n')) (e : a' = a) : t' = t := by
  have q1 := tb2_cases h
  have q2 := tb2_cases h'
  omega
def A2 (M m : MzM) (L : MzV) : Prop :=
  (∀ t k : Nat, vis2 t = true → mz_i M (t, 0) k = mz_i m (t, 0) k) ∧
  (∀ t a c n i : Nat, tb2 t = some (a, c, n) → i < n → mz_i M (a, 0) i = Int32.ofNat (L t i).length ∧ (L t i).length ≤ c ∧ ∀ j : Nat, j < (L t i).length → (L t i)[j]? = some (mz_i M (t, 0) (c * i + j)))
theorem A2.si {M m : MzM} {L : MzV} (h : A2 M m L) {t k : Nat} {v : Int32} (hv : vis2 t = true) : A2 (mz_si M (t, 0) k v) (mz_si m (t, 0) k v) L := by
  obtain ⟨h1, h3⟩ := h
  have ne : ∀ p q : Nat, vis2 p = false → mz_i (mz_si M (t, 0) k v) (p, 0) q = mz_i M (p, 0) q := by
    intro p q hf
    rw [mz_i_si, if_neg]
    rintro ⟨z1, z2⟩
    have z3 : p = t := congrArg Prod.fst z1
    rw [z3] at hf
    exact absurd (hv.symm.trans hf) (by decide)
  refine ⟨fun p q hpq => ?_, fun t' a c n i ht hi => ?_⟩
  · rw [mz_i_si, mz_i_si, h1 p q hpq]
  · obtain ⟨e1, e2, e3⟩ := h3 t' a c n i ht hi
    obtain ⟨g1, g2⟩ := tb2_vis ht
    exact ⟨(ne a i g1).trans e1, e2, fun j hj => (e3 j hj).trans (congrArg some (ne t' _ g2).symm)⟩
theorem A2.cutl {M m : MzM} {L : MzV} (h : A2 M m L) {t a c n i k : Nat} (ht : tb2 t = some (a, c, n)) {w : Int32} (hk : k ≤ (L t i).length) (hw : w = Int32.ofNat k) : A2 (mz_si M (a, 0) i w) m (lu L t i ((L t i).take k)) := by
  obtain ⟨h1, h3⟩ := h
  obtain ⟨g1, g2⟩ := tb2_vis ht
  have ne : ∀ p q : Nat, ¬ (p = a ∧ q = i) → mz_i (mz_si M (a, 0) i w) (p, 0) q = mz_i M (p, 0) q := by
    intro p q n2
    rw [mz_i_si, if_neg (fun z => n2 ⟨congrArg Prod.fst z.1, z.2⟩)]
  refine ⟨fun p q hpq => ?_, fun t' a' c' n' i' ht' hi' => ?_⟩
  · rw [ne p q, h1 p q hpq]
    rintro ⟨rfl, rfl⟩
    exact absurd (hpq.symm.trans g1) (by decide)
  · obtain ⟨e1, e2, e3⟩ := h3 t' a' c' n' i' ht' hi'
    by_cases hti : t' = t ∧ i' = i
    · obtain ⟨rfl, rfl⟩ := hti
      have hs : some (a', c', n') = some (a, c, n) := ht'.symm.trans ht
      simp only [Option.some.injEq, Prod.mk.injEq] at hs
      obtain ⟨rfl, rfl, rfl⟩ := hs
      have hlen : ((L t' i').take k).length = k := by rw [List.length_take]; omega
      rw [lu_same, hlen]
      refine ⟨?_, by omega, fun j hj => ?_⟩
      · rw [mz_i_si, if_pos ⟨rfl, rfl⟩, hw]
      · rw [List.getElem?_take_of_lt hj, ne _ _ (fun z => tb2_cell ht ht' z.1)]
        exact e3 j (by omega)
    · rw [lu_ne L _ hti]
      exact ⟨(ne _ _ (fun z => hti ⟨tb2_inj ht ht' z.1, z.2⟩)).trans e1, e2, fun j hj => (e3 j hj).trans (congrArg some (ne _ _ (fun z => tb2_cell ht' ht z.1)).symm)⟩
theorem A2.clr {M m : MzM} {L : MzV} (h : A2 M m L) {t a c n i : Nat} (ht : tb2 t = some (a, c, n)) : A2 (mz_si M (a, 0) i 0) m (lu L t i []) := by
  have h1 := A2.cutl (i := i) (k := 0) (w := 0) h ht (Nat.zero_le _) rfl
  rw [List.take_zero] at h1
  exact h1
theorem A2.push {M m : MzM} {L : MzV} (h : A2 M m L) {t a c n i : Nat} (ht : tb2 t = some (a, c, n)) (hi : i < n) {v w : Int32} (hl : (L t i).length < c) (hw : w = Int32.ofNat ((L t i).length + 1)) : A2 (mz_si (mz_si M (t, 0) (c * i + (L t i).length) v) (a, 0) i w) m (lu L t i (L t i ++ [v])) := by
  obtain ⟨h1, h3⟩ := h
  obtain ⟨g1, g2⟩ := tb2_vis ht
  have ne : ∀ p q : Nat, ¬ (p = t ∧ q = c * i + (L t i).length) → ¬ (p = a ∧ q = i) → mz_i (mz_si (mz_si M (t, 0) (c * i + (L t i).length) v) (a, 0) i w) (p, 0) q = mz_i M (p, 0) q := by
    intro p q n1 n2
    rw [mz_i_si, if_neg (fun z => n2 ⟨congrArg Prod.fst z.1, z.2⟩), mz_i_si, if_neg (fun z => n1 ⟨congrArg Prod.fst z.1, z.2⟩)]
  refine ⟨fun p q hpq => ?_, fun t' a' c' n' i' ht' hi' => ?_⟩
  · rw [ne p q, h1 p q hpq]
    · rintro ⟨rfl, _⟩
      exact absurd (hpq.symm.trans g2) (by decide)
    · rintro ⟨rfl, _⟩
      exact absurd (hpq.symm.trans g1) (by decide)
  · obtain ⟨e1, e2, e3⟩ := h3 t' a' c' n' i' ht' hi'
    by_cases hti : t' = t ∧ i' = i
    · obtain ⟨rfl, rfl⟩ := hti
      have hs : some (a', c', n') = some (a, c, n) := ht'.symm.trans ht
      simp only [Option.some.injEq, Prod.mk.injEq] at hs
      obtain ⟨rfl, rfl, rfl⟩ := hs
      have hta : t' ≠ a' := tb2_cell ht ht'
      have hlen : (L t' i' ++ [v]).length = (L t' i').length + 1 := by simp
      rw [lu_same, hlen]
      refine ⟨?_, hl, fun j hj => ?_⟩
      · rw [mz_i_si, if_pos ⟨rfl, rfl⟩, hw]
      · rw [mz_i_si, if_neg (fun z => hta (congrArg Prod.fst z.1)), mz_i_si]
        by_cases hjl : j = (L t' i').length
        · rw [if_pos ⟨rfl, by rw [hjl]⟩, hjl]
          exact List.getElem?_concat_length
        · rw [if_neg (fun z => hjl (Nat.add_left_cancel z.2)), List.getElem?_append_left (by omega)]
          exact e3 j (by omega)
    · rw [lu_ne L _ hti]
      refine ⟨(ne _ _ (fun z => tb2_cell ht ht' z.1.symm) (fun z => hti ⟨tb2_inj ht ht' z.1, z.2⟩)).trans e1, e2, fun j hj => (e3 j hj).trans (congrArg some (ne _ _ ?_ (fun z => tb2_cell ht' ht z.1)).symm)⟩
      rintro ⟨rfl, z⟩
      have hs : some (a', c', n') = some (a, c, n) := ht'.symm.trans ht
      simp only [Option.some.injEq, Prod.mk.injEq] at hs
      obtain ⟨rfl, rfl, rfl⟩ := hs
      exact str_ne (by omega) hl (fun w => hti ⟨rfl, w⟩) z
theorem A2.over {M m : MzM} {L : MzV} {t k : Nat} {u v : Int32} (h : A2 M (mz_si (mz_si m (t, 0) k u) (t, 0) k v) L) : A2 M (mz_si m (t, 0) k v) L := by
  refine ⟨fun p q hpq => ?_, h.2⟩
  rw [h.1 p q hpq, mz_i_si, mz_i_si, mz_i_si]
  by_cases z : (p, 0) = (t, 0) ∧ q = k
  · rw [if_pos z, if_pos z]
  · rw [if_neg z, if_neg z, if_neg z]
/-- what a queue becomes when a text is put behind it, if there is room -/
def qap (q ds : List Int32) : List Int32 := if q.length + ds.length ≤ 200 then q ++ ds else q
def dg (c : Int32) : List Int32 := [(48 : Int32) + ((c / (100 : Int32)) - (c / (100 : Int32)) / (10 : Int32) * (10 : Int32)), (48 : Int32) + ((c / (10 : Int32)) - (c / (10 : Int32)) / (10 : Int32) * (10 : Int32)), (48 : Int32) + (c - c / (10 : Int32) * (10 : Int32))]
def dgo (c : Int32) : List Int32 := [(48 : Int32) + (c / (100 : Int32)), (48 : Int32) + ((c / (10 : Int32)) - (c / (10 : Int32)) / (10 : Int32) * (10 : Int32)), (48 : Int32) + (c - c / (10 : Int32) * (10 : Int32))]
theorem pl_write {x : Nat} {b : Int32} {M m : MzM} {L : MzV} {ds : List Int32} {K : MzM → Prop} (h : A1 M m (lu L 11 x ds)) (hl : ds.length < 66) (hk : ∀ M', A1 M' m (lu L 11 x (ds ++ [b])) → K M') : wp_Rep_write x b M K := by
  obtain ⟨e1, e2, e3⟩ := h.2.2.1 11 9 4 66 x rfl
  rw [lu_same] at e1 e2
  have e4 : (mz_i M (9, x) 4).toInt = (ds.length : Int) := by rw [e1]; exact itn (by omega)
  refine ⟨fun h9 => absurd ((ile (m := 66) rfl e4).mp h9) (by omega), fun _ => ⟨ds.length, e4, hl, ?_⟩⟩
  rintro _ rfl _ rfl
  have hp := A1.push (t := 11) (i := x) (v := b) (w := mz_i (mz_si M (11, x) ds.length b) (9, x) 4 + 1) h rfl (by rw [lu_same]; exact hl) (by rw [lu_same]; exact i32_succ e1)
  rw [lu_same, lu_lu] at hp
  exact hk _ hp
theorem pl_begin {x : Nat} {c : Int32} {M m : MzM} {L : MzV} {K : MzM → Prop} (h : A1 M m L) (hk : ∀ M', A1 M' m (lu L 11 x (dg c)) → K M') : wp_Rep_begin x c M K := by
  rintro _ rfl
  have h0 : A1 (mz_si M (9, x) 4 0) m (lu L 11 x []) := h.clr (t := 11) rfl
  exact pl_write h0 (lt_ble rfl) (fun M1 h1 => pl_write h1 (lt_ble rfl) (fun M2 h2 => pl_write h2 (lt_ble rfl) (fun M3 h3 => hk M3 h3)))
theorem pl_keep_loop {x : Nat} {m : MzM} {L : MzV} {ds q : List Int32} {K : MzM → Prop} (hd : L 11 x = ds) (h66 : ds.length ≤ 66) (h200 : q.length + ds.length ≤ 200) (hk : ∀ M', A1 M' m (lu L 9 x (q ++ ds)) → K M') : ∀ (r i : Nat) (M : MzM), i + r = ds.length → A1 M m (lu L 9 x (q ++ ds.take i)) → wp_Rep_keepDraft_18 x K (r + 1) (Int32.ofNat i) M := by
  intro r
  induction r with
  | zero =>
    intro i M hi h
    have e : ds.take i = ds := List.take_of_length_le (by omega)
    rw [e] at h
    obtain ⟨e1, e2, e3⟩ := h.2.2.1 11 9 4 66 x rfl
    have el : lu L 9 x (q ++ ds) 11 x = L 11 x := lu_ne L _ (fun z => absurd z.1 (by decide))
    rw [el, hd] at e1
    have e4 : (mz_i M (9, x) 4).toInt = (ds.length : Int) := by rw [e1]; exact itn (by omega)
    refine ⟨fun _ => hk M h, fun h9 => absurd ((ile e4 (itn (n := i) (by omega))).mpr (by omega)) h9⟩
  | succ r ih =>
    intro i M hi h
    obtain ⟨e1, e2, e3⟩ := h.2.2.1 11 9 4 66 x rfl
    have el : lu L 9 x (q ++ ds.take i) 11 x = L 11 x := lu_ne L _ (fun z => absurd z.1 (by decide))
    rw [el, hd] at e1 e3
    have e4 : (mz_i M (9, x) 4).toInt = (ds.length : Int) := by rw [e1]; exact itn (by omega)
    have ei : (Int32.ofNat i).toInt = (i : Int) := itn (by omega)
    have hlt : (q ++ ds.take i).length = q.length + i := by rw [List.length_append, List.length_take]; omega
    obtain ⟨f, hf, f1, f2, f3⟩ := A1.qpush (x := x) h (by rw [lu_same, hlt]; omega)
    rw [lu_same, hlt] at f2 f3
    have g1 : (mz_i M (9, x) 1).toInt = (f : Int) := by rw [f1]; exact itn (by omega)
    have g2 : (mz_i M (9, x) 2).toInt = ((q.length + i : Nat) : Int) := by rw [f2]; exact itn (by omega)
    have g3 : (mz_i M (9, x) 1 + mz_i M (9, x) 2).toInt = ((f + (q.length + i) : Nat) : Int) := by rw [iadd g1 g2 (by omega) (by omega)]; omega
    have g4 := imod (c := 200) (n := 200) g3 rfl
    refine ⟨fun h9 => absurd ((ile e4 ei).mp h9) (by omega), fun _ => ⟨i, ei, by omega, (f + (q.length + i)) % 200, g4, Nat.mod_lt _ (by decide), ?_⟩⟩
    rintro _ rfl _ rfl
    have es : (Int32.ofNat i + 1 : Int32) = Int32.ofNat (i + 1) := (Int32.ofNat_add i 1).symm
    rw [es]
    refine ih (i + 1) _ (by omega) ?_
    have hp := f3 (mz_i M (11, x) i) (mz_i (mz_si M (10, x) ((f + (q.length + i)) % 200) (mz_i M (11, x) i)) (9, x) 2 + 1) (i32_succ f2)
    rw [lu_lu] at hp
    have et : q ++ ds.take (i + 1) = q ++ ds.take i ++ [mz_i M (11, x) i] := by
      rw [List.take_succ, e3 i (by omega), List.append_assoc]
      rfl
    rw [et]
    exact hp
theorem pl_keepDraft {x : Nat} {M m : MzM} {L : MzV} {ds : List Int32} {K : MzM → Prop} (h : A1 M m (lu L 11 x ds)) (hk : ∀ M', A1 M' m (lu (lu L 11 x ds) 9 x (qap (L 9 x) ds)) → K M') : wp_Rep_keepDraft x M K := by
  obtain ⟨e1, e2, e3⟩ := h.2.2.1 11 9 4 66 x rfl
  obtain ⟨f, hf, f1, f2, f3, f4⟩ := h.2.2.2 x
  rw [lu_same] at e1 e2
  have e9 : lu L 11 x ds 9 x = L 9 x := lu_ne L _ (fun z => absurd z.1 (by decide))
  rw [e9] at f2 f3
  have g1 : (mz_i M (9, x) 4).toInt = (ds.length : Int) := by rw [e1]; exact itn (by omega)
  have g2 : (mz_i M (9, x) 2).toInt = ((L 9 x).length : Int) := by rw [f2]; exact itn (by omega)
  have g3 := iadd g2 g1 (by omega) (by omega)
  refine ⟨fun h9 => ?_, fun h9 => ?_⟩
  · have hle : (L 9 x).length + ds.length ≤ 200 := by
      have := (ile (n := 200) g3 rfl).mp h9
      omega
    have eq : qap (L 9 x) ds = L 9 x ++ ds := by unfold qap; rw [if_pos hle]
    rw [eq] at hk
    refine ⟨ds.length + 1, pl_keep_loop (L := lu L 11 x ds) (q := L 9 x) (lu_same L 11 x ds) e2 hle hk ds.length 0 M (by omega) ?_⟩
    rw [List.take_zero, List.append_nil, ← e9, lu_id]
    exact h
  · have hle : ¬ (L 9 x).length + ds.length ≤ 200 := fun q => h9 ((ile (n := 200) g3 rfl).mpr (by omega))
    have eq : qap (L 9 x) ds = L 9 x := by unfold qap; rw [if_neg hle]
    rw [eq, ← e9, lu_id] at hk
    exact hk M h
theorem pl_end {x : Nat} {M m : MzM} {L : MzV} {ds : List Int32} {K : MzM → Prop} (h : A1 M m (lu L 11 x ds)) (hl : ds.length ≤ 64) (hk : ∀ M', A1 M' m (lu (lu L 11 x (ds ++ [13] ++ [10])) 9 x (qap (L 9 x) (ds ++ [13] ++ [10]))) → K M') : wp_Rep_end x M K :=
  pl_write h (by omega) (fun M1 h1 => pl_write h1 (by simp only [List.length_append, List.length_singleton]; omega) (fun M2 h2 => pl_keepDraft h2 (fun M3 h3 => hk M3 h3)))
theorem pl_answer5 {x : Nat} {c : Int32} {M m : MzM} {L : MzV} {K : MzM → Prop} (h : A1 M m L) (h213 : ¬ c = 213) (h257 : ¬ c = 257) (hk : ∀ M' ds, A1 M' m (lu (lu L 11 x ds) 9 x (qap (L 9 x) (dg c ++ [13] ++ [10]))) → K M') : wp_Ses_answer x c M K :=
  pl_begin h (fun M1 h1 => ⟨fun _ => ⟨fun _ => pl_end h1 (Nat.le_of_ble_eq_true rfl) (fun M2 h2 => hk M2 _ h2), fun h9 => absurd h9 h257⟩, fun h9 => absurd h9 h213⟩)
/-- what 213 tells -/
def dn (v : Int32) : List Int32 := if v < 10 then [(48 : Int32) + (v - v / (10 : Int32) * (10 : Int32))] else [(48 : Int32) + ((v / (10 : Int32)) - (v / (10 : Int32)) / (10 : Int32) * (10 : Int32)), (48 : Int32) + (v - v / (10 : Int32) * (10 : Int32))]
theorem pl_answer213 {x : Nat} {M m : MzM} {L : MzV} {K : MzM → Prop} (h : A1 M m L) (hk : ∀ M' ds, A1 M' m (lu (lu L 11 x ds) 9 x (qap (L 9 x) (dg 213 ++ [32] ++ dn (mz_i m (8, x) 14) ++ [13] ++ [10]))) → K M') : wp_Ses_answer x 213 M K := by
  refine pl_begin h (fun M1 h1 => ⟨fun h9 => absurd rfl h9, fun _ => ?_⟩)
  rw [h1.1 (8, x) 14 rfl]
  refine pl_write h1 (lt_ble rfl) (fun M2 h2 => ⟨fun hv => ?_, fun hv => ?_⟩)
  · have e : dn (mz_i m (8, x) 14) = [(48 : Int32) + (mz_i m (8, x) 14 - mz_i m (8, x) 14 / (10 : Int32) * (10 : Int32))] := if_pos hv
    rw [e] at hk
    exact pl_write h2 (lt_ble rfl) (fun M3 h3 => ⟨fun _ => pl_end h3 (Nat.le_of_ble_eq_true rfl) (fun M4 h4 => hk M4 _ h4), fun h9 => absurd h9 (by decide)⟩)
  · have e : dn (mz_i m (8, x) 14) = [(48 : Int32) + ((mz_i m (8, x) 14 / (10 : Int32)) - (mz_i m (8, x) 14 / (10 : Int32)) / (10 : Int32) * (10 : Int32))] ++ [(48 : Int32) + (mz_i m (8, x) 14 - mz_i m (8, x) 14 / (10 : Int32) * (10 : Int32))] := if_neg hv
    rw [e, ← List.append_assoc] at hk
    exact pl_write h2 (lt_ble rfl) (fun M3 h3 => pl_write h3 (lt_ble rfl) (fun M4 h4 => ⟨fun _ => pl_end h4 (Nat.le_of_ble_eq_true rfl) (fun M5 h5 => hk M5 _ h5), fun h9 => absurd h9 (by decide)⟩))
