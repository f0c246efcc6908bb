/-! the way from a node up to the root, and what 257 tells -/
def Ch (f32 f34 : Nat → Int32) : Nat → List Nat → Prop
  | n, [] => n = 0
  | n, c :: l => c = n ∧ ¬ n = 0 ∧ n < 16 ∧ f32 n = 1 ∧ ∃ p : Nat, p < 16 ∧ f34 n = Int32.ofNat p ∧ Ch f32 f34 p l
theorem ch_ex {m1 m2 : MzM} {L1 L2 : MzV} (hE : EE m1 L1 m2 L2) {n : Nat} (hn : n < 16) (hth : mz_i m2 (32, 0) n = 1) : ∃ l : List Nat, Ch (mz_i m2 (32, 0)) (mz_i m2 (34, 0)) n l ∧ l.length ≤ 15 := by
  obtain ⟨d, hd, hd15⟩ := tree_rk hE.2.2.2.2.2.1
  have key : ∀ r n : Nat, d n ≤ r → n < 16 → mz_i m2 (32, 0) n = 1 → ∃ l : List Nat, Ch (mz_i m2 (32, 0)) (mz_i m2 (34, 0)) n l ∧ l.length ≤ d n := by
    intro r
    induction r with
    | zero =>
      intro n h0 hn hth
      by_cases hn0 : n = 0
      · exact ⟨[], hn0, Nat.zero_le _⟩
      · obtain ⟨_, _, p, hp, ep⟩ := (hE.2.2.1 n hn).2.2.2.1 hth hn0
        have := hd n p hn hn0 hth ep hp.1
        omega
    | succ r ih =>
      intro n h0 hn hth
      by_cases hn0 : n = 0
      · exact ⟨[], hn0, Nat.zero_le _⟩
      · obtain ⟨_, _, p, hp, ep⟩ := (hE.2.2.1 n hn).2.2.2.1 hth hn0
        have hlt := hd n p hn hn0 hth ep hp.1
        obtain ⟨l, hl, hlen⟩ := ih p (by omega) hp.1 hp.2.1
        exact ⟨n :: l, ⟨rfl, hn0, hn, hth, p, hp.1, ep, hl⟩, by rw [List.length_cons]; omega⟩
  obtain ⟨l, hl, hlen⟩ := key (d n) n (Nat.le_refl _) hn hth
  exact ⟨l, hl, Nat.le_trans hlen (hd15 n hn)⟩
def stp (f35 : Nat → Int32) (c : Nat) : List Int32 := 47 :: ltr 3 (f35 c)
def pstr (f35 : Nat → Int32) : List Nat → List Int32
  | [] => []
  | c :: l => pstr f35 l ++ stp f35 c
def pP (f35 : Nat → Int32) (l : List Nat) : List Int32 := if l = [] then [47] else pstr f35 l
theorem stp_len (f35 : Nat → Int32) (c : Nat) : (stp f35 c).length ≤ 4 := by
  have := ltr_len 3 (f35 c)
  unfold stp
  rw [List.length_cons]
  omega
theorem pstr_len (f35 : Nat → Int32) : ∀ l : List Nat, (pstr f35 l).length ≤ 4 * l.length := by
  intro l
  induction l with
  | nil => exact Nat.le_refl _
  | cons c l ih =>
    have := stp_len f35 c
    unfold pstr
    rw [List.length_append, List.length_cons]
    omega
theorem pstr_drop (f35 : Nat → Int32) : ∀ (l : List Nat) (i c : Nat), l[i]? = some c → pstr f35 (l.drop i) = pstr f35 (l.drop (i + 1)) ++ stp f35 c := by
  intro l
  induction l with
  | nil =>
    intro i c h
    simp at h
  | cons a l ih =>
    intro i c h
    cases i with
    | zero =>
      have e : a = c := Option.some.inj h
      subst e
      rfl
    | succ i => exact ih i c h
theorem pstr_drop_le (f35 : Nat → Int32) : ∀ (l : List Nat) (i : Nat), (pstr f35 (l.drop i)).length ≤ (pstr f35 l).length := by
  intro l
  induction l with
  | nil =>
    intro i
    rw [List.drop_nil]
    exact Nat.le_refl _
  | cons a l ih =>
    intro i
    cases i with
    | zero => exact Nat.le_refl _
    | succ i =>
      have := ih i
      have e : (pstr f35 (a :: l)).length = (pstr f35 l).length + (stp f35 a).length := List.length_append
      have e2 : (a :: l).drop (i + 1) = l.drop i := rfl
      rw [e2]
      omega
theorem ch_mem {f32 f34 : Nat → Int32} : ∀ (l : List Nat) (n i c : Nat), Ch f32 f34 n l → l[i]? = some c → ¬ c = 0 ∧ c < 16 ∧ f32 c = 1 := by
  intro l
  induction l with
  | nil =>
    intro n i c _ h
    simp at h
  | cons a l ih =>
    intro n i c hc h
    obtain ⟨e, h0, h16, h1, p, hp, ep, hl⟩ := hc
    cases i with
    | zero =>
      have e' : a = c := Option.some.inj h
      rw [← e', e]
      exact ⟨h0, h16, h1⟩
    | succ i => exact ih p i c hl h
/-! the class -/
theorem A1.hid {M m : MzM} {L : MzV} (h : A1 M m L) {x j : Nat} {v : Int32} : A1 (mz_si M (18, x) j v) m L := by
  obtain ⟨h1, h2, h3, h4⟩ := h
  have ne : ∀ (p : MzL) (k : Nat), ¬ p.1 = 18 → mz_i (mz_si M (18, x) j v) p k = mz_i M p k := by
    intro p k hp
    rw [mz_i_si, if_neg (fun z => hp (congrArg Prod.fst z.1))]
  refine ⟨fun p k hv => ?_, fun p k => h2 p k, fun t a b c i ht => ?_, fun y => ?_⟩
  · rw [ne p k (fun z => by rw [z] at hv; exact absurd hv (by simp [vis1]))]
    exact h1 p k hv
  · obtain ⟨e1, e2, e3⟩ := h3 t a b c i ht
    have q := tb1_cases ht
    refine ⟨?_, e2, fun j' hj' => ?_⟩
    · rw [ne (a, i) b (by show ¬ a = 18; omega)]
      exact e1
    · rw [ne (t, i) j' (by show ¬ t = 18; omega)]
      exact e3 j' hj'
  · obtain ⟨f, hf, f1, f2, f3, f4⟩ := h4 y
    refine ⟨f, hf, ?_, ?_, f3, fun j' hj' => ?_⟩
    · rw [ne (9, y) 1 (by show ¬ 9 = 18; decide)]
      exact f1
    · rw [ne (9, y) 2 (by show ¬ 9 = 18; decide)]
      exact f2
    · rw [ne (10, y) _ (by show ¬ 10 = 18; decide)]
      exact f4 j' hj'
theorem pl_lin_loop {x : Nat} {f32 f34 : Nat → Int32} {m : MzM} {L : MzV} {K : Int32 → MzM → Prop} (hp2 : ∀ c : Nat, ¬ c = 0 → c < 16 → f32 c = 1 → mz_i m (3, c) 2 = f34 c) : ∀ (l : List Nat) (n i : Nat) (M : MzM), Ch f32 f34 n l → i + l.length ≤ 15 → A1 M m L → (∀ M', A1 M' m L → (∀ j : Nat, j < i → mz_i M' (18, x) j = mz_i M (18, x) j) → (∀ j c : Nat, l[j]? = some c → mz_i M' (18, x) (i + j) = Int32.ofNat c) → K (Int32.ofNat (i + l.length)) M') → wp_Store_lineage_5 x K (l.length + 1) (Int32.ofNat i) (Int32.ofNat n) M := by
  intro l
  induction l with
  | nil =>
    intro n i M hc hi h hk
    have e : n = 0 := hc
    subst e
    have g : K (Int32.ofNat i) M := hk M h (fun _ _ => rfl) (fun j c hj => by simp at hj)
    exact ⟨fun _ => g, fun _ => ⟨fun _ => g, fun z => absurd (by decide) z⟩⟩
  | cons a l ih =>
    intro n i M hc hi h hk
    obtain ⟨e, h0, h16, h1, p, hp, ep, hl⟩ := hc
    rw [List.length_cons] at hi
    have ti : (Int32.ofNat i).toInt = (i : Int) := itn (by omega)
    have tn : (Int32.ofNat n).toInt = (n : Int) := itn (by omega)
    show wp_Store_lineage_5 x K (l.length + 1 + 1) (Int32.ofNat i) (Int32.ofNat n) M
    refine ⟨fun z => absurd ((ile (m := 16) rfl ti).mp z) (by omega), fun _ => ⟨fun z => absurd ((ile (n := 0) tn rfl).mp z) (by omega), fun _ => ⟨fun z => absurd ((ile (m := 16) rfl tn).mp z) (by omega), fun _ => ⟨i, ti, by omega, ?_⟩⟩⟩⟩
    rintro _ rfl
    refine ⟨n, tn, h16, ?_⟩
    have hh : A1 (mz_si M (18, x) i (Int32.ofNat n)) m L := h.hid
    have e2 : mz_i (mz_si M (18, x) i (Int32.ofNat n)) (3, n) 2 = Int32.ofNat p := ((hh.1 (3, n) 2 rfl).trans (hp2 n h0 h16 h1)).trans ep
    rw [e2, i32_succ (n := i) rfl]
    refine ih p (i + 1) _ hl (by omega) hh (fun M' h' hlow hrow => ?_)
    have es : i + 1 + l.length = i + (a :: l).length := by rw [List.length_cons]; omega
    rw [es]
    refine hk M' h' (fun j hj => ?_) (fun j c hj => ?_)
    · rw [hlow j (by omega), mz_i_si, if_neg (fun z => by have := z.2; omega)]
    · cases j with
      | zero =>
        have e' : a = c := Option.some.inj hj
        rw [Nat.add_zero, hlow i (by omega), mz_i_si, if_pos ⟨rfl, rfl⟩, ← e', e]
      | succ j =>
        have q := hrow j c hj
        have es2 : i + 1 + j = i + (j + 1) := by omega
        rw [es2] at q
        exact q
theorem pl_write8 {x : Nat} {b : Int32} {M m : MzM} {L : MzV} {ds : List Int32} {K : MzM → Prop} (h : A1 M m (lu L 11 x ds)) (hl : ds.length < 66) (hk : ∀ M', A1 M' m (lu L 11 x (ds ++ [b])) → (∀ j : Nat, mz_i M' (18, x) j = mz_i M (18, x) j) → K M') : wp_Rep_write x b M K := by
  have e1 := (h.2.2.1 11 9 4 66 x rfl).1
  rw [lu_same] at e1
  have e4 : (mz_i M (9, x) 4).toInt = (ds.length : Int) := by rw [e1]; exact itn (by omega)
  refine ⟨fun h9 => absurd ((ile (m := 66) rfl e4).mp h9) (by omega), fun _ => ⟨ds.length, e4, hl, ?_⟩⟩
  rintro _ rfl _ rfl
  have hp := A1.push (t := 11) (i := x) (v := b) (w := mz_i (mz_si M (11, x) ds.length b) (9, x) 4 + 1) h rfl (by rw [lu_same]; exact hl) (by rw [lu_same]; exact i32_succ e1)
  rw [lu_same, lu_lu] at hp
  exact hk _ hp (fun j => rfl)
theorem pl_step_loop {x : Nat} {m : MzM} {L : MzV} {K : MzM → Prop} : ∀ (k : Nat) (v : Int32) (acc : List Int32) (M : MzM), k ≤ 3 → A1 M m (lu L 11 x acc) → acc.length + k ≤ 66 → (∀ M', A1 M' m (lu L 11 x (acc ++ ltr k v)) → (∀ j : Nat, mz_i M' (18, x) j = mz_i M (18, x) j) → K M') → wp_Rep_writeStep_10 x K (k + 1) v (Int32.ofNat (3 - k)) M := by
  intro k
  induction k with
  | zero =>
    intro v acc M hk3 h hl hk
    have ef : acc ++ ltr 0 v = acc := List.append_nil acc
    rw [ef] at hk
    exact ⟨fun _ => hk M h (fun _ => rfl), fun z => absurd (by decide) z⟩
  | succ k ih =>
    intro v acc M hk3 h hl hk
    have t3 : (Int32.ofNat (3 - (k + 1))).toInt = ((3 - (k + 1) : Nat) : Int) := itn (by omega)
    refine ⟨fun z => absurd ((ile (m := 3) rfl t3).mp z) (by omega), fun _ => ⟨fun z => ?_, fun z => ?_⟩⟩
    · have ef : ltr (k + 1) v = [] := if_pos z
      rw [ef, List.append_nil] at hk
      exact hk M h (fun _ => rfl)
    · have ef : ltr (k + 1) v = (v - v / (128 : Int32) * (128 : Int32)) :: ltr k (v / (128 : Int32)) := if_neg z
      rw [ef] at hk
      refine pl_write8 h (by omega) (fun M2 h2 w2 => ?_)
      rw [i32_succ (n := 3 - (k + 1)) rfl]
      have e3 : 3 - (k + 1) + 1 = 3 - k := by omega
      rw [e3]
      refine ih (v / 128) _ M2 (by omega) h2 (by rw [List.length_append, List.length_singleton]; omega) (fun M3 h3 w3 => hk M3 ?_ (fun j => (w3 j).trans (w2 j)))
      rw [List.append_assoc] at h3
      exact h3
theorem pl_75 {x : Nat} {f32 f34 f35 : Nat → Int32} {m : MzM} {L : MzV} {hd : List Int32} {l : List Nat} {n : Nat} {K : MzM → Prop} (hc : Ch f32 f34 n l) (hl : l.length ≤ 15) (hhd : hd.length = 4) (hp3 : ∀ c : Nat, ¬ c = 0 → c < 16 → f32 c = 1 → mz_i m (3, c) 3 = f35 c) (hk : ∀ M', A1 M' m (lu (lu L 11 x (hd ++ pstr f35 l ++ [13] ++ [10])) 9 x (qap (L 9 x) (hd ++ pstr f35 l ++ [13] ++ [10]))) → K M') : ∀ (i : Nat) (y : Int32) (M : MzM), i ≤ l.length → y.toInt = (i : Int) - 1 → A1 M m (lu L 11 x (hd ++ pstr f35 (l.drop i))) → (∀ j c : Nat, l[j]? = some c → mz_i M (18, x) j = Int32.ofNat c) → wp_Ses_answer_75 x K (i + 1) y M := by
  intro i
  have hp := pstr_len f35 l
  induction i with
  | zero =>
    intro y M hi hy h hrow
    refine ⟨fun _ => pl_end h (by rw [List.length_append, List.drop_zero]; omega) (fun M2 h2 => hk M2 h2), fun z => absurd ((ilt (n := 0) hy rfl).mpr (by omega)) z⟩
  | succ i ih =>
    intro y M hi hy h hrow
    have hil : i < l.length := by omega
    have ec : l[i]? = some l[i] := List.getElem?_eq_getElem hil
    obtain ⟨c0, c16, c1⟩ := ch_mem l n i l[i] hc ec
    have ti : y.toInt = (i : Int) := by rw [hy]; omega
    have er := hrow i l[i] ec
    have g3 : mz_i M (3, l[i]) 3 = f35 l[i] := (h.1 (3, l[i]) 3 rfl).trans (hp3 _ c0 c16 c1)
    have hdr := pstr_drop f35 l i l[i] ec
    have hle := pstr_drop_le f35 l i
    have hlen : (pstr f35 (l.drop i)).length = (pstr f35 (l.drop (i + 1))).length + (stp f35 l[i]).length := by rw [hdr, List.length_append]
    have hs : (stp f35 l[i]).length = (ltr 3 (f35 l[i])).length + 1 := List.length_cons
    have hle2 : (pstr f35 (l.drop (i + 1))).length ≤ 4 * (l.drop (i + 1)).length := pstr_len f35 _
    rw [List.length_drop] at hle2
    refine ⟨fun z => absurd ((ilt (n := 0) ti rfl).mp z) (by omega), fun _ => ⟨i, ti, by omega, l[i], by rw [er]; exact itn (by omega), c16, ?_⟩⟩
    rw [g3]
    refine pl_write8 h (by rw [List.length_append]; omega) (fun M2 h2 w2 => ⟨3 + 1, pl_step_loop 3 (f35 l[i]) _ M2 (Nat.le_refl _) h2 (by rw [List.length_append, List.length_append, List.length_singleton]; omega) (fun M3 h3 w3 => ?_)⟩)
    refine ih (y + -1) M3 (by omega) ?_ ?_ (fun j c hj => ((w3 j).trans (w2 j)).trans (hrow j c hj))
    · rw [iadd (n := -1) ti rfl (by omega) (by omega)]
      omega
    · have e9 : hd ++ pstr f35 (l.drop (i + 1)) ++ [47] ++ ltr 3 (f35 l[i]) = hd ++ pstr f35 (l.drop i) := by
        rw [hdr, List.append_assoc, List.append_assoc]
        rfl
      rw [e9] at h3
      exact h3
theorem pl_answer257 {x n : Nat} {f32 f34 f35 : Nat → Int32} {l : List Nat} {M m : MzM} {L : MzV} {K : MzM → Prop} (h : A1 M m L) (hc : Ch f32 f34 n l) (hl : l.length ≤ 15) (hp2 : ∀ c : Nat, ¬ c = 0 → c < 16 → f32 c = 1 → mz_i m (3, c) 2 = f34 c) (hp3 : ∀ c : Nat, ¬ c = 0 → c < 16 → f32 c = 1 → mz_i m (3, c) 3 = f35 c) (e15 : mz_i m (8, x) 15 = Int32.ofNat n) (hk : ∀ M' ds, A1 M' m (lu (lu L 11 x ds) 9 x (qap (L 9 x) (dg 257 ++ [32] ++ pP f35 l ++ [13] ++ [10]))) → K M') : wp_Ses_answer x 257 M K := by
  refine pl_begin h (fun M1 h1 => ⟨fun _ => ⟨fun z => absurd rfl z, fun _ => ?_⟩, fun z => absurd z (by decide)⟩)
  refine pl_write h1 (lt_ble rfl) (fun M2 h2 => ?_)
  have f15 : mz_i M2 (8, x) 15 = Int32.ofNat n := (h2.1 (8, x) 15 rfl).trans e15
  rw [f15]
  refine ⟨l.length + 1, pl_lin_loop hp2 l n 0 M2 hc (by omega) h2 (fun M3 h3 _ hrow => ?_)⟩
  have e0 : 0 + l.length = l.length := Nat.zero_add _
  rw [e0]
  have tl : (Int32.ofNat l.length).toInt = (l.length : Int) := itn (by omega)
  have hrow' : ∀ j c : Nat, l[j]? = some c → mz_i M3 (18, x) j = Int32.ofNat c := fun j c hj => by
    have q := hrow j c hj
    rw [Nat.zero_add] at q
    exact q
  by_cases hn : l = []
  · have ep : pP f35 l = [47] := if_pos hn
    rw [ep] at hk
    subst hn
    refine ⟨fun z => absurd rfl z, fun _ => pl_write h3 (lt_ble rfl) (fun M4 h4 => ⟨1, ?_⟩)⟩
    exact ⟨fun _ => pl_end h4 (Nat.le_of_ble_eq_true rfl) (fun M5 h5 => hk M5 _ h5), fun z => absurd (by decide) z⟩
  · have ep : pP f35 l = pstr f35 l := if_neg hn
    rw [ep] at hk
    have hpos : 0 < l.length := List.length_pos_iff.mpr hn
    refine ⟨fun _ => ⟨l.length + 1, ?_⟩, fun z => absurd ((ieq (n := 0) tl rfl).mp z) (by omega)⟩
    refine pl_75 (f32 := f32) (f34 := f34) (f35 := f35) (hd := dg 257 ++ [32]) hc hl rfl hp3 (fun M5 h5 => hk M5 _ h5) l.length _ M3 (Nat.le_refl _) ?_ ?_ hrow'
    · rw [isub (n := 1) tl rfl (by omega) (by omega)]
    · rw [List.drop_length]
      exact h3
/-! the reference -/
theorem mo_depth_loop {f32 f34 : Nat → Int32} {m : MzM} {L : MzV} {M : MzM} {K : Int32 → MzM → Prop} (h : A2 M m L) (e34 : ∀ c : Nat, mz_i m (34, 0) c = f34 c) (h0 : f34 0 = -1) : ∀ (l : List Nat) (n i : Nat), Ch f32 f34 n l → K (Int32.ofNat (i + l.length)) M → wp_Mo_depth_4 K (l.length + 1) (Int32.ofNat i) (Int32.ofNat n) M := by
  intro l
  induction l with
  | nil =>
    intro n i hc hk
    have e : n = 0 := hc
    subst e
    have g : mz_i M (34, 0) 0 = -1 := ((h.1 34 0 rfl).trans (e34 0)).trans h0
    refine ⟨0, rfl, by decide, fun _ => hk, fun z => absurd (by rw [g]; decide) z⟩
  | cons a l ih =>
    intro n i hc hk
    obtain ⟨e, hn0, h16, h1, p, hp, ep, hl⟩ := hc
    have tn : (Int32.ofNat n).toInt = (n : Int) := itn (by omega)
    have g : mz_i M (34, 0) n = Int32.ofNat p := ((h.1 34 n rfl).trans (e34 n)).trans ep
    show wp_Mo_depth_4 K (l.length + 1 + 1) (Int32.ofNat i) (Int32.ofNat n) M
    refine ⟨n, tn, h16, ?_⟩
    rw [g]
    refine ⟨fun z => absurd ((ilt (n := 0) (itn (n := p) (by omega)) rfl).mp z) (by omega), fun _ => ⟨n, tn, h16, ?_⟩⟩
    rw [g, i32_succ (n := i) rfl]
    refine ih p (i + 1) hl ?_
    have es : i + 1 + l.length = i + (a :: l).length := by rw [List.length_cons]; omega
    rw [es]
    exact hk
theorem mo_above_loop {f32 f34 : Nat → Int32} {m : MzM} {L : MzV} {M : MzM} {K : Int32 → MzM → Prop} (h : A2 M m L) (e34 : ∀ c : Nat, mz_i m (34, 0) c = f34 c) : ∀ (l : List Nat) (n r j c : Nat), Ch f32 f34 n l → l[r]? = some c → j + r ≤ 100 → K (Int32.ofNat c) M → wp_Mo_above_5 K (r + 1) (Int32.ofNat (j + r)) (Int32.ofNat n) (Int32.ofNat j) M := by
  intro l
  induction l with
  | nil =>
    intro n r j c _ hr
    simp at hr
  | cons a l ih =>
    intro n r j c hc hr hj hk
    obtain ⟨e, hn0, h16, h1, p, hp, ep, hl⟩ := hc
    have tn : (Int32.ofNat n).toInt = (n : Int) := itn (by omega)
    have tj : (Int32.ofNat j).toInt = (j : Int) := itn (by omega)
    have tr : (Int32.ofNat (j + r)).toInt = ((j + r : Nat) : Int) := itn (by omega)
    cases r with
    | zero =>
      have e' : a = c := Option.some.inj hr
      refine ⟨fun _ => ?_, fun z => absurd ((ile tr tj).mpr (by omega)) z⟩
      rw [← e, e']
      exact hk
    | succ r =>
      have g : mz_i M (34, 0) n = Int32.ofNat p := ((h.1 34 n rfl).trans (e34 n)).trans ep
      refine ⟨fun z => absurd ((ile tr tj).mp z) (by omega), fun _ => ⟨n, tn, h16, ?_⟩⟩
      rw [g, i32_succ (n := j) rfl]
      have es : j + (r + 1) = j + 1 + r := by omega
      rw [es]
      exact ih p r (j + 1) c hl hr (by omega) hk
theorem mo_above {f32 f34 : Nat → Int32} {m : MzM} {L : MzV} {M : MzM} {K : Int32 → MzM → Prop} {l : List Nat} {n i c : Nat} (h : A2 M m L) (e34 : ∀ c : Nat, mz_i m (34, 0) c = f34 c) (hc : Ch f32 f34 n l) (hi : l[i]? = some c) (hi2 : i ≤ 100) (hk : K (Int32.ofNat c) M) : wp_Mo_above (Int32.ofNat n) (Int32.ofNat i) M K := by
  have g := mo_above_loop (K := K) h e34 l n i 0 c hc hi (by omega) hk
  rw [Nat.zero_add] at g
  exact ⟨i + 1, g⟩
theorem ltr_nil {v : Int32} (h : v ≤ 0) : ∀ k : Nat, ltr k v = [] := by
  intro k
  cases k with
  | zero => rfl
  | succ k => exact if_pos h
theorem ltr_pos {v : Int32} (h : ¬ v ≤ 0) (k : Nat) : (ltr (k + 1) v).length = (ltr k (v / 128)).length + 1 := by
  have e : ltr (k + 1) v = (v - v / (128 : Int32) * (128 : Int32)) :: ltr k (v / (128 : Int32)) := if_neg h
  rw [e, List.length_cons]
theorem mo_letters {v : Int32} {w : Nat} {M : MzM} {K : Int32 → MzM → Prop} (hv : v.toInt = (w : Int)) (h0 : 0 < w) (hk : K (Int32.ofNat (ltr 3 v).length) M) : wp_Mo_lettersOf v M K := by
  have p0 : ¬ v ≤ 0 := fun z => by
    have := (ile (n := 0) hv rfl).mp z
    omega
  have d1 := idiv (n := 128) hv (show (128 : Int32).toInt = ((128 : Nat) : Int) from rfl)
  have d2 := idiv (n := 128) d1 (show (128 : Int32).toInt = ((128 : Nat) : Int) from rfl)
  have q1 : v / 128 ≤ 0 ↔ w < 128 := by
    rw [ile (n := 0) d1 rfl]
    omega
  have q2 : v / 128 / 128 ≤ 0 ↔ w < 16384 := by
    rw [ile (n := 0) d2 rfl]
    omega
  have b1 : v < 16384 ↔ w < 16384 := by
    rw [ilt (n := 16384) hv rfl]
    omega
  have b2 : v < 128 ↔ w < 128 := by
    rw [ilt (n := 128) hv rfl]
    omega
  have e3 := ltr_pos p0 2
  refine ⟨fun z => ⟨fun y => ?_, fun y => ?_⟩, fun z => ?_⟩
  · rw [e3, ltr_nil (q1.mpr (b2.mp y))] at hk
    exact hk
  · rw [e3, ltr_pos (fun w' => y (b2.mpr (q1.mp w'))) 1, ltr_nil (q2.mpr (b1.mp z))] at hk
    exact hk
  · have n2 : ¬ v / 128 / 128 ≤ 0 := fun w' => z (b1.mpr (q2.mp w'))
    have n1 : ¬ v / 128 ≤ 0 := fun w' => by
      have := q1.mp w'
      exact z (b1.mpr (by omega))
    rw [e3, ltr_pos n1 1, ltr_pos n2 0] at hk
    exact hk
theorem mo_139 {x : Nat} {y1 y4 : Int32} {m : MzM} {L : MzV} {H : Int32 → Int32 → MzM → Prop} {K : MzM → Prop} (hs : (mz_i m (30, 0) 29).toInt = (x : Int)) (hx : x < 2) : ∀ (k w : Nat) (v : Int32) (acc : List Int32) (M : MzM), v.toInt = (w : Int) → w < 128 ^ k → A2 M m (lu L 45 x acc) → acc.length + (ltr k v).length ≤ 200 → (∀ M', A2 M' m (lu L 45 x (acc ++ ltr k v)) → H y1 (y4 + -1) M') → wp_Mo_replyPath_139 H K (k + 1) y1 y4 v M := by
  intro k
  induction k with
  | zero =>
    intro w v acc M hv hw h hl hk
    have w0 : w = 0 := by
      have e : (128 : Nat) ^ 0 = 1 := rfl
      omega
    subst w0
    have ef : acc ++ ltr 0 v = acc := List.append_nil acc
    rw [ef] at hk
    exact ⟨fun _ => hk M h, fun z => absurd ((ile (n := 0) hv rfl).mpr (by omega)) z⟩
  | succ k ih =>
    intro w v acc M hv hw h hl hk
    have g29 : (mz_i M (30, 0) 29).toInt = (x : Int) := by rw [h.1 30 29 rfl]; exact hs
    refine ⟨fun z => ?_, fun z => ?_⟩
    · have ef : ltr (k + 1) v = [] := if_pos z
      rw [ef, List.append_nil] at hk
      exact hk M h
    · have ef : ltr (k + 1) v = (v - v / (128 : Int32) * (128 : Int32)) :: ltr k (v / (128 : Int32)) := if_neg z
      rw [ef] at hk
      rw [ef, List.length_cons] at hl
      refine mo_put' h g29 hx (by omega) (fun M2 h2 => ?_)
      refine ih (w / 128) (v / 128) _ M2 (idiv (n := 128) hv rfl) (Nat.div_lt_of_lt_mul (by rw [Nat.pow_succ, Nat.mul_comm] at hw; exact hw)) h2 (by rw [List.length_append, List.length_singleton]; omega) (fun M3 h3 => hk M3 ?_)
      rw [List.append_assoc] at h3
      exact h3
theorem mo_110 {x : Nat} {f32 f34 f35 : Nat → Int32} {m : MzM} {L : MzV} {hd : List Int32} {l : List Nat} {n : Nat} {K : MzM → Prop} (hs : (mz_i m (30, 0) 29).toInt = (x : Int)) (hx : x < 2) (hc : Ch f32 f34 n l) (hl : l.length ≤ 15) (hroom : hd.length + (pstr f35 l).length + 2 ≤ 200) (e34 : ∀ c : Nat, mz_i m (34, 0) c = f34 c) (e35 : ∀ c : Nat, mz_i m (35, 0) c = f35 c) (hnm : ∀ c : Nat, ¬ c = 0 → c < 16 → f32 c = 1 → nmE (f35 c)) (hk : ∀ M', A2 M' m (lu L 45 x (hd ++ pstr f35 l ++ [13] ++ [10])) → K M') : ∀ (i : Nat) (y : Int32) (M : MzM), i ≤ l.length → y.toInt = (i : Int) - 1 → A2 M m (lu L 45 x (hd ++ pstr f35 (l.drop i))) → wp_Mo_replyPath_110 K (i + 1) (Int32.ofNat n) y M := by
  intro i
  induction i with
  | zero =>
    intro y M hi hy h
    refine ⟨fun _ => mo_putEnd h hs hx (by rw [List.length_append, List.drop_zero]; omega) (fun M2 h2 => hk M2 h2), fun z => absurd ((ilt (n := 0) hy rfl).mpr (by omega)) z⟩
  | succ i ih =>
    intro y M hi hy h
    have hil : i < l.length := by omega
    have ec : l[i]? = some l[i] := List.getElem?_eq_getElem hil
    obtain ⟨c0, c16, c1⟩ := ch_mem l n i l[i] hc ec
    have ti : y.toInt = (i : Int) := by rw [hy]; omega
    have ey : y = Int32.ofNat i := iofn ti
    have g29 : (mz_i M (30, 0) 29).toInt = (x : Int) := by rw [h.1 30 29 rfl]; exact hs
    have hdr := pstr_drop f35 l i l[i] ec
    have hle := pstr_drop_le f35 l i
    have hlen : (pstr f35 (l.drop i)).length = (pstr f35 (l.drop (i + 1))).length + (stp f35 l[i]).length := by rw [hdr, List.length_append]
    have hsl : (stp f35 l[i]).length = (ltr 3 (f35 l[i])).length + 1 := List.length_cons
    obtain ⟨w, hw, hw0, ew⟩ := nmE_w (hnm l[i] c0 c16 c1)
    refine ⟨fun z => absurd ((ilt (n := 0) ti rfl).mp z) (by omega), fun _ => mo_put' h g29 hx (by rw [List.length_append]; omega) (fun M2 h2 => ?_)⟩
    rw [ey]
    refine mo_above h2 e34 hc ec (by omega) ⟨l[i], itn (by omega), c16, 3 + 1, ?_⟩
    have g35 : mz_i M2 (35, 0) l[i] = f35 l[i] := (h2.1 35 l[i] rfl).trans (e35 _)
    rw [g35]
    refine mo_139 hs hx 3 w _ _ M2 ew hw h2 (by rw [List.length_append, List.length_append, List.length_singleton]; omega) (fun M3 h3 => ?_)
    rw [← ey]
    refine ih (y + -1) M3 (by omega) ?_ ?_
    · rw [iadd (n := -1) ti rfl (by omega) (by omega)]
      omega
    · have e9 : hd ++ pstr f35 (l.drop (i + 1)) ++ [47] ++ ltr 3 (f35 l[i]) = hd ++ pstr f35 (l.drop i) := by
        rw [hdr, List.append_assoc, List.append_assoc]
        rfl
      rw [e9] at h3
      exact h3
theorem mo_replyPath {x n : Nat} {f32 f34 f35 : Nat → Int32} {l : List Nat} {M m : MzM} {L : MzV} {K : MzM → Prop} (h : A2 M m L) (hs : (mz_i m (30, 0) 29).toInt = (x : Int)) (hx : x < 2) (hc : Ch f32 f34 n l) (hl : l.length ≤ 15) (e34 : ∀ c : Nat, mz_i m (34, 0) c = f34 c) (e35 : ∀ c : Nat, mz_i m (35, 0) c = f35 c) (h0 : f34 0 = -1) (hnm : ∀ c : Nat, ¬ c = 0 → c < 16 → f32 c = 1 → nmE (f35 c)) (hk : ∀ M', A2 M' (mz_si m (30, 0) 30 (fa m 257)) (lu L 45 x (qap (L 45 x) (dgo 257 ++ [32] ++ pP f35 l ++ [13] ++ [10]))) → K M') : wp_Mo_replyPath (Int32.ofNat n) M K := by
  have hpl := pstr_len f35 l
  refine mo_answered h (fun M1 h1 => ?_)
  have e34' : ∀ c : Nat, mz_i (mz_si m (30, 0) 30 (fa m 257)) (34, 0) c = f34 c := e34
  have e35' : ∀ c : Nat, mz_i (mz_si m (30, 0) 30 (fa m 257)) (35, 0) c = f35 c := e35
  have hs' : (mz_i (mz_si m (30, 0) 30 (fa m 257)) (30, 0) 29).toInt = (x : Int) := hs
  generalize mz_si m (30, 0) 30 (fa m 257) = m' at *
  have tl : (Int32.ofNat l.length).toInt = (l.length : Int) := itn (by omega)
  have g29 : ∀ (M' : MzM) (L' : MzV), A2 M' m' L' → (mz_i M' (30, 0) 29).toInt = (x : Int) := fun M' L' h' => by rw [h'.1 30 29 rfl]; exact hs'
  have hid : A2 M1 m' (lu L 45 x (L 45 x)) := by rw [lu_id]; exact h1
  -- behind the sum
  have tail : ∀ (T : Nat) (y : Int32), y.toInt = (T : Int) → (pP f35 l).length = T → wp_Mo_hasRoom (mz_i M1 (30, 0) 29) ((6 : Int32) + y) M1 (fun v14 M11 => ((¬ v14 = 0 → wp_Mo_putCode (257 : Int32) M11 (fun M15 => wp_Mo_put (mz_i M15 (30, 0) 29) (32 : Int32) M15 (fun M18 => ((¬ Int32.ofNat l.length = 0 → wp_Mo_replyPath_105 K (Int32.ofNat n) (Int32.ofNat l.length) M18) ∧ (Int32.ofNat l.length = 0 → wp_Mo_put (mz_i M18 (30, 0) 29) (47 : Int32) M18 (fun M21 => wp_Mo_replyPath_105 K (Int32.ofNat n) (Int32.ofNat l.length) M21)))))) ∧ (v14 = 0 → K M11))) := by
    intro T y hy hT
    have hT64 : T ≤ 60 + 1 := by
      rw [← hT]
      unfold pP
      by_cases hn : l = []
      · rw [if_pos hn]
        exact Nat.le_of_ble_eq_true rfl
      · rw [if_neg hn]
        omega
    have t6 : ((6 : Int32) + y).toInt = ((6 + T : Nat) : Int) := by rw [iadd (m := 6) rfl hy (by omega) (by omega)]; omega
    have hlen : (dgo 257 ++ [32] ++ pP f35 l ++ [13] ++ [10]).length = 6 + T := by
      simp only [List.length_append, List.length_singleton, dgo_len]
      omega
    refine mo_hasRoom (n := 6 + T) h1 (g29 _ _ h1) hx t6 (by omega) (fun hr => ⟨fun _ => ?_, fun z => absurd z (by decide)⟩) (fun hr => ⟨fun z => absurd rfl z, fun _ => hk M1 ?_⟩)
    · have eq : qap (L 45 x) (dgo 257 ++ [32] ++ pP f35 l ++ [13] ++ [10]) = L 45 x ++ (dgo 257 ++ [32] ++ pP f35 l ++ [13] ++ [10]) := by
        unfold qap
        rw [if_pos (by rw [hlen]; exact hr)]
      rw [eq] at hk
      refine mo_putCode hid hs' hx (by omega) (fun M3 h3 => mo_put' h3 (g29 _ _ h3) hx (by rw [List.length_append, dgo_len]; omega) (fun M4 h4 => ?_))
      by_cases hn : l = []
      · have ep : pP f35 l = [47] := if_pos hn
        rw [ep] at hk hT
        subst hn
        have hT1 : T = 1 := hT.symm
        refine ⟨fun z => absurd rfl z, fun _ => mo_put' h4 (g29 _ _ h4) hx (by rw [List.length_append, List.length_append, dgo_len, List.length_singleton]; omega) (fun M5 h5 => ⟨1, ?_⟩)⟩
        refine ⟨fun _ => mo_putEnd h5 hs' hx (by rw [List.length_append, List.length_append, List.length_append, dgo_len, List.length_singleton, List.length_singleton]; omega) (fun M6 h6 => hk M6 ?_), fun z => absurd (by decide) z⟩
        have e9 : L 45 x ++ dgo 257 ++ [32] ++ [47] ++ [13] ++ [10] = L 45 x ++ (dgo 257 ++ [32] ++ [47] ++ [13] ++ [10]) := by simp only [List.append_assoc]
        rw [← e9]
        exact h6
      · have ep : pP f35 l = pstr f35 l := if_neg hn
        rw [ep] at hk hT
        have hpos : 0 < l.length := List.length_pos_iff.mpr hn
        refine ⟨fun _ => ⟨l.length + 1, ?_⟩, fun z => absurd ((ieq (n := 0) tl rfl).mp z) (by omega)⟩
        refine mo_110 (L := L) (f32 := f32) (f34 := f34) (f35 := f35) (hd := L 45 x ++ dgo 257 ++ [32]) hs' hx hc hl (by rw [List.length_append, List.length_append, dgo_len, List.length_singleton]; omega) e34' e35' hnm (fun M5 h5 => hk M5 ?_) l.length _ M4 (Nat.le_refl _) ?_ ?_
        · have e9 : L 45 x ++ dgo 257 ++ [32] ++ pstr f35 l ++ [13] ++ [10] = L 45 x ++ (dgo 257 ++ [32] ++ pstr f35 l ++ [13] ++ [10]) := by simp only [List.append_assoc]
          rw [← e9]
          exact h5
        · rw [isub (n := 1) tl rfl (by omega) (by omega)]
        · rw [List.drop_length]
          have e8 : L 45 x ++ dgo 257 ++ [32] ++ pstr f35 [] = L 45 x ++ dgo 257 ++ [32] := List.append_nil _
          rw [e8]
          exact h4
    · have eq : qap (L 45 x) (dgo 257 ++ [32] ++ pP f35 l ++ [13] ++ [10]) = L 45 x := by
        unfold qap
        rw [if_neg (by rw [hlen]; exact hr)]
      rw [eq]
      exact hid
  -- the sum
  have sum : ∀ (s r i u : Nat), i + r = l.length → u + (pstr f35 (l.drop i)).length = s + (pstr f35 l).length → s ≤ 1 → s + (pstr f35 l).length = (pP f35 l).length → wp_Mo_replyPath_26 K (r + 1) (Int32.ofNat n) (Int32.ofNat l.length) (Int32.ofNat u) (Int32.ofNat i) M1 := by
    intro s r
    induction r with
    | zero =>
      intro i u hi hu hs1 hp
      have ei : i = l.length := by omega
      have ed : l.drop i = [] := by rw [ei]; exact List.drop_length
      rw [ed] at hu
      have hu' : u = s + (pstr f35 l).length := hu
      refine ⟨fun _ => tail u _ (itn (by omega)) (by omega), fun z => absurd ((ile tl (itn (n := i) (by omega))).mpr (by omega)) z⟩
    | succ r ih =>
      intro i u hi hu hs1 hp
      have hil : i < l.length := by omega
      have ec : l[i]? = some l[i] := List.getElem?_eq_getElem hil
      obtain ⟨c0, c16, c1⟩ := ch_mem l n i l[i] hc ec
      have hdr := pstr_drop f35 l i l[i] ec
      have hlen : (pstr f35 (l.drop i)).length = (pstr f35 (l.drop (i + 1))).length + (stp f35 l[i]).length := by rw [hdr, List.length_append]
      have hsl : (stp f35 l[i]).length = (ltr 3 (f35 l[i])).length + 1 := List.length_cons
      obtain ⟨w, hw, hw0, ew⟩ := nmE_w (hnm l[i] c0 c16 c1)
      refine ⟨fun z => absurd ((ile tl (itn (n := i) (by omega))).mp z) (by omega), fun _ => mo_above h1 e34' hc ec (by omega) ⟨l[i], itn (by omega), c16, ?_⟩⟩
      have g35 : mz_i M1 (35, 0) l[i] = f35 l[i] := (h1.1 35 l[i] rfl).trans (e35' _)
      rw [g35]
      refine mo_letters ew hw0 ?_
      rw [i32_succ (n := i) rfl, i32_succ (n := u) rfl, ← Int32.ofNat_add]
      exact ih (i + 1) (u + 1 + (ltr 3 (f35 l[i])).length) (by omega) (by omega) hs1 hp
  refine ⟨l.length + 1, mo_depth_loop h1 e34' h0 l n 0 hc ?_⟩
  have e0 : 0 + l.length = l.length := Nat.zero_add _
  rw [e0]
  by_cases hn : l = []
  · have ep : (pP f35 l).length = 1 := by
      have : pP f35 l = [47] := if_pos hn
      rw [this]
      rfl
    have e2 : (pstr f35 l).length = 0 := by rw [hn]; rfl
    have el : l.length = 0 := by rw [hn]; rfl
    refine ⟨fun z => absurd (by rw [el]; rfl) z, fun _ => ⟨l.length + 1, sum 1 l.length 0 1 (by omega) (by rw [List.drop_zero]) (Nat.le_refl _) (by omega)⟩⟩
  · have ep : pP f35 l = pstr f35 l := if_neg hn
    have hpos : 0 < l.length := List.length_pos_iff.mpr hn
    refine ⟨fun _ => ⟨l.length + 1, sum 0 l.length 0 0 (by omega) (by rw [List.drop_zero]) (by omega) (by rw [ep]; omega)⟩, fun z => absurd ((ieq (n := 0) tl rfl).mp z) (by omega)⟩
theorem dg257 : dg 257 = dgo 257 := by decide
theorem fin257_0 {m1 m2 mo M1 : MzM} {no : Int32 → MzM} {f32 f34 f35 : Nat → Int32} {LO L2O : MzV} {a : Int32} {n : Nat} {K : MzM → Prop} (hE : ∀ cc, EE mo LO (no cc) L2O) (e32 : ∀ cc c, mz_i (no cc) (32, 0) c = f32 c) (e34 : ∀ cc c, mz_i (no cc) (34, 0) c = f34 c) (e35 : ∀ cc c, mz_i (no cc) (35, 0) c = f35 c) (hn16 : n < 16) (hth : f32 n = 1) (ha : a.toInt = ((0 : Nat) : Int)) (hs : ∀ cc, (mz_i (no cc) (30, 0) 29).toInt = ((0 : Nat) : Int)) (hf : ∀ cc, mz_i (no cc) (30, 0) 30 = 0) (ho : ∀ cc, mz_i (no cc) (39, 0) 0 = 0 ∧ mz_i (no cc) (40, 0) 0 = 0) (hcp : ∀ cc, cpF m1 m2 mo (no cc)) (hv : mz_i mo (8, 0) 16 = 257) (h15 : mz_i mo (8, 0) 15 = Int32.ofNat n) (h1 : A1 M1 mo LO) (hk : ∀ M1', (∀ (cc : Int32) (M2 : MzM) (K2 : MzM → Prop), A2 M2 (no cc) L2O → (∀ M2', OL m1 m2 0 M1' M2' → K2 M2') → wp_Mo_replyPath (Int32.ofNat n) M2 (clrK a K2)) → K M1') : tlA 0 K M1 := by
  have q32 : mz_i (no 0) (32, 0) = f32 := funext (e32 0)
  have q34 : mz_i (no 0) (34, 0) = f34 := funext (e34 0)
  obtain ⟨l, hc, hl⟩ := ch_ex (hE 0) hn16 ((e32 0 n).trans hth)
  rw [q32, q34] at hc
  have hN := (hE 0).2.2.1
  have hp2 : ∀ c : Nat, ¬ c = 0 → c < 16 → f32 c = 1 → mz_i (mz_si mo (12, 0) 3 0) (3, c) 2 = f34 c := fun c c0 c16 c1 => ((hN c c16).2.2.2.1 ((e32 0 c).trans c1) c0).1.trans (e34 0 c)
  have hp3 : ∀ c : Nat, ¬ c = 0 → c < 16 → f32 c = 1 → mz_i (mz_si mo (12, 0) 3 0) (3, c) 3 = f35 c := fun c c0 c16 c1 => ((hN c c16).2.2.2.2.1 ((e32 0 c).trans c1)).trans (e35 0 c)
  have hnm : ∀ c : Nat, ¬ c = 0 → c < 16 → f32 c = 1 → nmE (f35 c) := fun c c0 c16 c1 => by
    have q := ((hN c c16).2.2.2.1 ((e32 0 c).trans c1) c0).2.1
    rw [e35 0 c] at q
    exact q
  have h00 : f34 0 = -1 := (e34 0 0).symm.trans (hE 0).2.2.2.2.1.2.1
  refine pl_startLine h1 (fun M3 h3 => ?_)
  have e3 : mz_i M3 (8, 0) 16 = 257 := (h3.1 (8, 0) 16 rfl).trans hv
  rw [e3]
  refine pl_answer257 h3 hc hl hp2 hp3 h15 (fun M4 ds h4 => ?_)
  have e4 : mz_i M4 (8, 0) 16 = 257 := (h4.1 (8, 0) 16 rfl).trans hv
  have hns : nsp mo LO 0 := nsp_0 (hE 0)
  refine ⟨fun _ => pl_notSpent h4 hns (hk M4 (fun cc M2 K2 h2 hk2 => ?_)), fun z => absurd (e4.symm.trans z) (by decide)⟩
  refine mo_replyPath h2 (hs cc) (by decide) hc hl (e34 cc) (e35 cc) h00 hnm (fun M5 h5 => mo_clr h5 ha (by decide) (fun M6 h6 => hk2 M6 ?_))
  have hq : L2O 45 0 = LO 9 0 := ((hE cc).1).2.1.symm
  rw [hq, ← dg257] at h6
  refine ⟨_, _, _, _, h4, h6, ee_line_0 (hE cc) ds _ _, hcp cc, ho cc, ⟨?_, posv hv (by decide)⟩, fun z => absurd (hv.symm.trans z) (by decide)⟩
  show mz_i mo (8, 0) 16 = fa (no cc) 257
  rw [hv, fa_0 (hf cc)]
theorem fin257_1 {m1 m2 mo M1 : MzM} {no : Int32 → MzM} {f32 f34 f35 : Nat → Int32} {LO L2O : MzV} {a : Int32} {n : Nat} {K : MzM → Prop} (hE : ∀ cc, EE mo LO (no cc) L2O) (e32 : ∀ cc c, mz_i (no cc) (32, 0) c = f32 c) (e34 : ∀ cc c, mz_i (no cc) (34, 0) c = f34 c) (e35 : ∀ cc c, mz_i (no cc) (35, 0) c = f35 c) (hn16 : n < 16) (hth : f32 n = 1) (ha : a.toInt = ((1 : Nat) : Int)) (hs : ∀ cc, (mz_i (no cc) (30, 0) 29).toInt = ((1 : Nat) : Int)) (hf : ∀ cc, mz_i (no cc) (30, 0) 30 = 0) (ho : ∀ cc, mz_i (no cc) (39, 0) 1 = 0 ∧ mz_i (no cc) (40, 0) 1 = 0) (hcp : ∀ cc, cpF m1 m2 mo (no cc)) (hv : mz_i mo (8, 1) 16 = 257) (h15 : mz_i mo (8, 1) 15 = Int32.ofNat n) (h1 : A1 M1 mo LO) (hk : ∀ M1', (∀ (cc : Int32) (M2 : MzM) (K2 : MzM → Prop), A2 M2 (no cc) L2O → (∀ M2', OL m1 m2 1 M1' M2' → K2 M2') → wp_Mo_replyPath (Int32.ofNat n) M2 (clrK a K2)) → K M1') : tlA 1 K M1 := by
  have q32 : mz_i (no 0) (32, 0) = f32 := funext (e32 0)
  have q34 : mz_i (no 0) (34, 0) = f34 := funext (e34 0)
  obtain ⟨l, hc, hl⟩ := ch_ex (hE 0) hn16 ((e32 0 n).trans hth)
  rw [q32, q34] at hc
  have hN := (hE 0).2.2.1
  have hp2 : ∀ c : Nat, ¬ c = 0 → c < 16 → f32 c = 1 → mz_i (mz_si mo (12, 1) 3 0) (3, c) 2 = f34 c := fun c c0 c16 c1 => ((hN c c16).2.2.2.1 ((e32 0 c).trans c1) c0).1.trans (e34 0 c)
  have hp3 : ∀ c : Nat, ¬ c = 0 → c < 16 → f32 c = 1 → mz_i (mz_si mo (12, 1) 3 0) (3, c) 3 = f35 c := fun c c0 c16 c1 => ((hN c c16).2.2.2.2.1 ((e32 0 c).trans c1)).trans (e35 0 c)
  have hnm : ∀ c : Nat, ¬ c = 0 → c < 16 → f32 c = 1 → nmE (f35 c) := fun c c0 c16 c1 => by
    have q := ((hN c c16).2.2.2.1 ((e32 0 c).trans c1) c0).2.1
    rw [e35 0 c] at q
    exact q
  have h00 : f34 0 = -1 := (e34 0 0).symm.trans (hE 0).2.2.2.2.1.2.1
  refine pl_startLine h1 (fun M3 h3 => ?_)
  have e3 : mz_i M3 (8, 1) 16 = 257 := (h3.1 (8, 1) 16 rfl).trans hv
  rw [e3]
  refine pl_answer257 h3 hc hl hp2 hp3 h15 (fun M4 ds h4 => ?_)
  have e4 : mz_i M4 (8, 1) 16 = 257 := (h4.1 (8, 1) 16 rfl).trans hv
  have hns : nsp mo LO 1 := nsp_1 (hE 0)
  refine ⟨fun _ => pl_notSpent h4 hns (hk M4 (fun cc M2 K2 h2 hk2 => ?_)), fun z => absurd (e4.symm.trans z) (by decide)⟩
  refine mo_replyPath h2 (hs cc) (by decide) hc hl (e34 cc) (e35 cc) h00 hnm (fun M5 h5 => mo_clr h5 ha (by decide) (fun M6 h6 => hk2 M6 ?_))
  have hq : L2O 45 1 = LO 9 1 := ((hE cc).2.1).2.1.symm
  rw [hq, ← dg257] at h6
  refine ⟨_, _, _, _, h4, h6, ee_line_1 (hE cc) ds _ _, hcp cc, ho cc, ⟨?_, posv hv (by decide)⟩, fun z => absurd (hv.symm.trans z) (by decide)⟩
  show mz_i mo (8, 1) 16 = fa (no cc) 257
  rw [hv, fa_0 (hf cc)]
