/-- a row of 24 takes one more, if it can -/
def row24 (l : List Int32) (b : Int32) : List Int32 := if l.length < 24 then l ++ [b] else l
theorem pl_add {n : Nat} {b : Int32} {M m : MzM} {L : MzV} {K : MzM → Prop} (h : A1 M m L) (hk : ∀ M', A1 M' m (lu L 5 n (row24 (L 5 n) b)) → K M') : wp_Row_add n b M K := by
  obtain ⟨e1, e2, e3⟩ := h.2.2.1 5 4 1 24 n rfl
  have e4 : (mz_i M (4, n) 1).toInt = ((L 5 n).length : Int) := by rw [e1]; exact itn (by omega)
  refine ⟨fun h9 => ?_, fun h9 => ?_⟩
  · have q := (ile (m := 24) rfl e4).mp h9
    have er : row24 (L 5 n) b = L 5 n := by unfold row24; rw [if_neg (by omega)]
    rw [er, lu_id] at hk
    exact hk M h
  · have q : ¬ (24 : Int) ≤ ((L 5 n).length : Int) := fun q => h9 ((ile (m := 24) rfl e4).mpr q)
    have hl : (L 5 n).length < 24 := by omega
    have er : row24 (L 5 n) b = L 5 n ++ [b] := by unfold row24; rw [if_pos hl]
    rw [er] at hk
    refine ⟨(L 5 n).length, e4, hl, ?_⟩
    rintro _ rfl _ rfl
    exact hk _ (A1.push (t := 5) (w := mz_i (mz_si M (5, n) (L 5 n).length b) (4, n) 1 + 1) h rfl hl (i32_succ e1))
theorem pl_adds {n : Nat} {b : Int32} {M m : MzM} {L : MzV} {K : MzM → Prop} (h : A1 M m L) (hk : ∀ M', A1 M' m (lu L 21 n (row24 (L 21 n) b)) → K M') : wp_Row_adds n b M K := by
  obtain ⟨e1, e2, e3⟩ := h.2.2.1 21 20 1 24 n rfl
  have e4 : (mz_i M (20, n) 1).toInt = ((L 21 n).length : Int) := by rw [e1]; exact itn (by omega)
  refine ⟨fun h9 => ?_, fun h9 => ?_⟩
  · have q := (ile (m := 24) rfl e4).mp h9
    have er : row24 (L 21 n) b = L 21 n := by unfold row24; rw [if_neg (by omega)]
    rw [er, lu_id] at hk
    exact hk M h
  · have q : ¬ (24 : Int) ≤ ((L 21 n).length : Int) := fun q => h9 ((ile (m := 24) rfl e4).mpr q)
    have hl : (L 21 n).length < 24 := by omega
    have er : row24 (L 21 n) b = L 21 n ++ [b] := by unfold row24; rw [if_pos hl]
    rw [er] at hk
    refine ⟨(L 21 n).length, e4, hl, ?_⟩
    rintro _ rfl _ rfl
    exact hk _ (A1.push (t := 21) (w := mz_i (mz_si M (21, n) (L 21 n).length b) (20, n) 1 + 1) h rfl hl (i32_succ e1))
theorem mo_keep {n : Nat} {a b : Int32} {M m : MzM} {L : MzV} {K : MzM → Prop} (h : A2 M m L) (ha : a.toInt = (n : Int)) (hn : n < 16) (hk : ∀ M', A2 M' m (lu L 38 n (row24 (L 38 n) b)) → K M') : wp_Mo_keep a b M K := by
  obtain ⟨e1, e2, e3⟩ := h.2 38 36 24 16 n rfl hn
  have e4 : (mz_i M (36, 0) n).toInt = ((L 38 n).length : Int) := by rw [e1]; exact itn (by omega)
  have e5 : ((24 : Int32) * a).toInt = 24 * (n : Int) := imul (m := 24) rfl ha (by omega) (by omega)
  refine ⟨n, ha, hn, fun h9 => ?_, fun h9 => ?_⟩
  · have q : ¬ ((L 38 n).length : Int) = 24 := fun q => h9 ((ieq (n := 24) e4 rfl).mpr q)
    have hl : (L 38 n).length < 24 := by omega
    have er : row24 (L 38 n) b = L 38 n ++ [b] := by unfold row24; rw [if_pos hl]
    rw [er] at hk
    have e6 : (((24 : Int32) * a) + (mz_i M (36, 0) n)).toInt = ((24 * n + (L 38 n).length : Nat) : Int) := by rw [iadd e5 e4 (by omega) (by omega)]; omega
    refine ⟨n, ha, hn, 24 * n + (L 38 n).length, e6, by omega, ?_⟩
    rintro _ rfl
    refine ⟨n, ha, hn, n, ha, hn, ?_⟩
    rintro _ rfl
    exact hk _ (A2.push (t := 38) (w := mz_i (mz_si M (38, 0) (24 * n + (L 38 n).length) b) (36, 0) n + 1) h rfl hn hl (i32_succ e1))
  · have q := (ieq (n := 24) e4 rfl).mp h9
    have er : row24 (L 38 n) b = L 38 n := by unfold row24; rw [if_neg (by omega)]
    rw [er, lu_id] at hk
    exact hk M h
/-- a way that has ended -/
def wEnd (m : MzM) (x : Nat) : MzM := mz_si (mz_sr (mz_si (mz_si (mz_si m (16, x) 0 0) (16, x) 1 0) (16, x) 3 0) (16, x) 4 none) (16, x) 6 0
theorem pl_way_70 {x : Nat} {M m : MzM} {L : MzV} {K : MzM → Prop} (h : A1 M m L) (hk : ∀ M', A1 M' (wEnd m x) (lu L 17 x []) → K M') : wp_Way_end_70 x K M := by
  rintro _ rfl _ rfl _ rfl _ rfl _ rfl _ rfl
  have h1 := h.si (o := (16, x)) (k := 0) (v := 0) rfl
  have h2 := h1.si (o := (16, x)) (k := 1) (v := 0) rfl
  have h3 := h2.si (o := (16, x)) (k := 3) (v := 0) rfl
  have h4 := h3.sr (o := (16, x)) (k := 4) (v := none)
  have h5 := h4.si (o := (16, x)) (k := 6) (v := 0) rfl
  exact hk _ (h5.clr (t := 17) (i := x) rfl)
theorem some3 {p : Option MzL} {n n' : Nat} (h : p = some (3, n)) (h' : p = some (3, n')) : n' = n := by
  rw [h] at h'
  injection h' with h'
  injection h' with _ h'
  exact h'.symm
theorem some3n {p : Option MzL} {n : Nat} (h : p = some (3, n)) : ¬ p = none := by
  rw [h]
  exact fun z => by cases z
theorem pl_way_none {x : Nat} {M m : MzM} {L : MzV} {K : MzM → Prop} (h : A1 M m L) (hr : mz_r m (16, x) 4 = none) (hk : ∀ M', A1 M' (wEnd m x) (lu L 17 x []) → K M') : wp_Way_end x M K := by
  have hr' : mz_r M (16, x) 4 = none := (h.2.1 _ _).trans hr
  have no : ∀ n : Nat, ¬ mz_r M (16, x) 4 = some (3, n) := fun n z => some3n z hr'
  exact ⟨fun _ => ⟨fun _ => pl_way_70 h hk, fun n _ z => absurd z (no n), Or.inl hr'⟩, fun n _ z => absurd z (no n), Or.inl hr'⟩
theorem pl_way_send {x n : Nat} {M m : MzM} {L : MzV} {K : MzM → Prop} (h : A1 M m L) (hn : n < 16) (hr : mz_r m (16, x) 4 = some (3, n)) (hm : mz_i m (16, x) 1 = 1) (hk : ∀ M', A1 M' (wEnd (mz_si m (3, n) 4 (mz_i m (3, n) 4 - 1)) x) (lu L 17 x []) → K M') : wp_Way_end x M K := by
  have hr' : mz_r M (16, x) 4 = some (3, n) := (h.2.1 _ _).trans hr
  have hm' : mz_i M (16, x) 1 = 1 := (h.1 _ _ rfl).trans hm
  have ho : mz_r M (16, x) 4 = none ∨ ∃ n1 : Nat, n1 < 16 ∧ mz_r M (16, x) 4 = some (3, n1) := Or.inr ⟨n, hn, hr'⟩
  refine ⟨fun z => absurd z (some3n hr'), fun n1 _ z => ⟨fun h9 => absurd hm' h9, fun _ => ⟨fun z => absurd z (some3n hr'), fun n4 _ z4 => ?_, ho⟩⟩, ho⟩
  have e := some3 hr' z4
  subst e
  rintro _ rfl
  have h1 : A1 (mz_si M (3, n4) 4 (mz_i M (3, n4) 4 - 1)) (mz_si m (3, n4) 4 (mz_i m (3, n4) 4 - 1)) L := by
    rw [h.1 (3, n4) 4 rfl]
    exact h.si (o := (3, n4)) (k := 4) rfl
  have hm2 : mz_i (mz_si M (3, n4) 4 (mz_i M (3, n4) 4 - 1)) (16, x) 1 = 1 := hm'
  refine ⟨fun z => absurd z (some3n hr'), fun n13 _ z => ⟨fun _ => pl_way_70 h1 hk, fun h9 => absurd (hm2.symm.trans h9) (by decide)⟩, ho⟩
theorem pl_way_recv {x n : Nat} {M m : MzM} {L : MzV} {K : MzM → Prop} (h : A1 M m L) (hn : n < 16) (hr : mz_r m (16, x) 4 = some (3, n)) (hm : mz_i m (16, x) 1 = 2) (hk : ∀ M', A1 M' (wEnd (mz_si m (3, n) 5 0) x) (lu (if mz_i m (16, x) 3 = 0 then L else lu L 5 n (row24 (L 5 n) 13)) 17 x []) → K M') : wp_Way_end x M K := by
  have hr' : mz_r M (16, x) 4 = some (3, n) := (h.2.1 _ _).trans hr
  have hm' : mz_i M (16, x) 1 = 2 := (h.1 _ _ rfl).trans hm
  have ho : mz_r M (16, x) 4 = none ∨ ∃ n1 : Nat, n1 < 16 ∧ mz_r M (16, x) 4 = some (3, n1) := Or.inr ⟨n, hn, hr'⟩
  have h62 : ∀ (M' : MzM) (L' : MzV), A1 M' m L' → (∀ M'', A1 M'' (wEnd (mz_si m (3, n) 5 0) x) (lu L' 17 x []) → K M'') → wp_Way_end_62 x K M' := by
    intro M' L' h' hk'
    have hs : mz_r M' (16, x) 4 = some (3, n) := (h'.2.1 _ _).trans hr
    refine ⟨fun z => absurd z (some3n hs), fun n35 _ z => ?_, Or.inr ⟨n, hn, hs⟩⟩
    have e := some3 hs z
    subst e
    rintro _ rfl
    exact pl_way_70 (h'.si (o := (3, n35)) (k := 5) (v := 0) rfl) hk'
  have h28 : wp_Way_end_28 x K M := by
    refine ⟨fun z => absurd z (some3n hr'), fun n13 _ z => ⟨fun h9 => absurd hm' h9, fun _ => ⟨fun h0 => ?_, fun h0 => ⟨fun z => absurd z (some3n hr'), fun n16 _ z16 => ?_, ho⟩⟩⟩, ho⟩
    · rw [h.1 (16, x) 3 rfl] at h0
      rw [if_pos h0] at hk
      exact h62 M L h hk
    · have e := some3 hr' z16
      subst e
      rw [h.1 (16, x) 3 rfl] at h0
      rw [if_neg h0] at hk
      exact pl_add h (fun M' h' => h62 M' _ h' hk)
  exact ⟨fun z => absurd z (some3n hr'), fun n1 _ z => ⟨fun _ => h28, fun h9 => absurd (hm'.symm.trans h9) (by decide)⟩, ho⟩
/-- a transfer that has ended -/
def rEnd (m : MzM) (x : Nat) : MzM := mz_si (mz_si (mz_si (mz_si m (55, 0) x 0) (53, 0) x 0) (54, 0) x (-1)) (52, 0) x 0
theorem mo_end_31 {x : Nat} {a : Int32} {M m : MzM} {L : MzV} {K : MzM → Prop} (h : A2 M m L) (ha : a.toInt = (x : Int)) (hx : x < 2) (hk : ∀ M', A2 M' (rEnd m x) L → K M') : wp_Mo_endTransfer_31 K a M := by
  refine ⟨x, ha, hx, ?_⟩
  rintro _ rfl
  refine ⟨x, ha, hx, ?_⟩
  rintro _ rfl
  refine ⟨x, ha, hx, ?_⟩
  rintro _ rfl
  refine ⟨x, ha, hx, ?_⟩
  rintro _ rfl
  have h1 := h.si (t := 55) (k := x) (v := 0) rfl
  have h2 := h1.si (t := 53) (k := x) (v := 0) rfl
  have h3 := h2.si (t := 54) (k := x) (v := -1) rfl
  exact hk _ (h3.si (t := 52) (k := x) (v := 0) rfl)
theorem mo_end_n {x : Nat} {a : Int32} {M m : MzM} {L : MzV} {K : MzM → Prop} (h : A2 M m L) (ha : a.toInt = (x : Int)) (hx : x < 2) (hh : mz_i m (53, 0) x = 2 → mz_i m (55, 0) x = 0) (hk : ∀ M', A2 M' (rEnd m x) L → K M') : wp_Mo_endTransfer a M K := by
  refine ⟨x, ha, hx, fun _ => mo_end_31 h ha hx hk, fun h9 => ⟨x, ha, hx, fun _ => mo_end_31 h ha hx hk, fun h8 => absurd ?_ h8⟩⟩
  rw [h.1 55 x rfl]
  rw [h.1 53 x rfl] at h9
  exact hh h9
theorem mo_end_h {x n : Nat} {a : Int32} {M m : MzM} {L : MzV} {K : MzM → Prop} (h : A2 M m L) (ha : a.toInt = (x : Int)) (hx : x < 2) (hm : mz_i m (53, 0) x = 2) (hn : n < 16) (hf : mz_i m (54, 0) x = Int32.ofNat n) (hk : ∀ M', A2 M' (rEnd m x) (if mz_i m (55, 0) x = 0 then L else lu L 38 n (row24 (L 38 n) 13)) → K M') : wp_Mo_endTransfer a M K := by
  refine ⟨x, ha, hx, fun h9 => absurd ((h.1 53 x rfl).trans hm) h9, fun _ => ⟨x, ha, hx, fun h8 => ?_, fun h8 => ⟨x, ha, hx, ?_⟩⟩⟩
  · rw [h.1 55 x rfl] at h8
    rw [if_pos h8] at hk
    exact mo_end_31 h ha hx hk
  · rw [h.1 55 x rfl] at h8
    rw [if_neg h8] at hk
    rw [h.1 54 x rfl, hf]
    exact mo_keep h (itn (by omega)) hn (fun M' h' => mo_end_31 h' ha hx hk)
