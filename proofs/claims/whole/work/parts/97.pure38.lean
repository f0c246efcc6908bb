theorem mo_follow {x b : Nat} {M m m1 : MzM} {L L1 L2 : MzV} {ss : List Int32} {K : MzM → Prop} (h : A2 M m L) (hs : (mz_i m (30, 0) 29).toInt = (x : Int)) (hx : x < 2) (hb : mz_i m (30, 0) 32 = Int32.ofNat b) (hb2 : b ≤ 31) (hN : ∀ n : Nat, n < 16 → nodeE m1 L1 m L2 n) (hr : rootE m1 m) (hp : pth (L 43 x) b = some ss) (hst : exI m (if chv (L 43 x) b = 47 then 0 else mz_i m (50, 0) x)) (hk : ∀ M' c, A2 M' (mz_si (mz_si (mz_si m (30, 0) 33 (wlk m (if chv (L 43 x) b = 47 then 0 else mz_i m (50, 0) x) ss)) (30, 0) 34 (plc m (if chv (L 43 x) b = 47 then 0 else mz_i m (50, 0) x) ss)) (30, 0) 35 c) L → (¬ plc m (if chv (L 43 x) b = 47 then 0 else mz_i m (50, 0) x) ss = -1 → c = lsI ss) → K M') : wp_Mo_follow M K := by
  obtain ⟨e1, e2, e3⟩ := h.line hx
  have s0 : (mz_i M (30, 0) 29).toInt = (x : Int) := by rw [h.1 30 29 rfl]; exact hs
  have b0 : mz_i M (30, 0) 32 = Int32.ofNat b := (h.1 30 32 rfl).trans hb
  have tb : (Int32.ofNat b).toInt = (b : Int) := itn (by omega)
  have sb : Int32.ofNat b + 1 = Int32.ofNat (b + 1) := i32_succ rfl
  have c50 : mz_i M (50, 0) x = mz_i m (50, 0) x := h.1 50 x rfl
  -- the last part, over where it begins
  have t55 : ∀ (p : Nat) (st : Int32), st = (if chv (L 43 x) b = 47 then 0 else mz_i m (50, 0) x) → ((p < (L 43 x).length ∧ sg (L 43 x) (L 43 x).length p = some ss) ∨ (p = (L 43 x).length ∧ ss = [])) → wp_Mo_follow_55 K (Int32.ofNat p) st M := by
    intro p st hst' hc
    rw [← hst'] at hst hk
    rintro _ rfl _ rfl
    have h1 := h.si (t := 30) (k := 33) (v := st) rfl
    have h2 := h1.si (t := 30) (k := 34) (v := -1) rfl
    have ag : ag3 (mz_si (mz_si m (30, 0) 33 st) (30, 0) 34 (-1)) m := by
      have a0 : ag3 m m := fun _ _ _ => rfl
      exact (a0.si (k := 33) (v := st) (by omega)).si (k := 34) (v := -1) (by omega)
    have g33 : mz_i (mz_si (mz_si m (30, 0) 33 st) (30, 0) 34 (-1)) (30, 0) 33 = st := by rw [mz_ne_k (by decide), mz_i_si, if_pos ⟨rfl, rfl⟩]
    have g34 : mz_i (mz_si (mz_si m (30, 0) 33 st) (30, 0) 34 (-1)) (30, 0) 34 = -1 := by rw [mz_i_si, if_pos ⟨rfl, rfl⟩]
    have fin : ∀ M' g', A2 M' g' L → ag3 g' m → mz_i g' (30, 0) 33 = wlk m st ss → mz_i g' (30, 0) 34 = plc m st ss → (¬ plc m st ss = -1 → mz_i g' (30, 0) 35 = lsI ss) → K M' := by
      intro M' g' h' ha' q1 q2 q3
      have hn := h'.norm3 ha'
      rw [q1, q2] at hn
      exact hk M' _ hn q3
    rcases hc with ⟨c1, c2⟩ | ⟨c1, c2⟩
    · exact ⟨(L 43 x).length + 1, mo_follow_loop hs hx e2 hN hr _ p ss _ _ st c2 c1 h2 ag g33 g34 hst fin⟩
    · refine ⟨1, ?_⟩
      have s2 : (mz_i (mz_si (mz_si M (30, 0) 33 st) (30, 0) 34 (-1)) (30, 0) 29).toInt = (x : Int) := s0
      have l2 : (mz_i (mz_si (mz_si M (30, 0) 33 st) (30, 0) 34 (-1)) (41, 0) x).toInt = ((L 43 x).length : Int) := e1
      have tp : (Int32.ofNat p).toInt = (p : Int) := itn (by omega)
      subst c2
      exact ⟨x, s2, hx, fun _ => fin _ _ h2 ag g33 g34 (fun z => absurd rfl z), fun z => absurd ((ile l2 tp).mpr (by omega)) z⟩
  unfold wp_Mo_follow
  rw [b0]
  refine mo_ch h hs hx tb (by omega) ⟨fun z => ?_, fun z => ?_⟩
  · have hc : b < (L 43 x).length ∧ sg (L 43 x) (L 43 x).length b = some ss := by
      unfold pth at hp
      rw [if_neg (fun w => z w.1), if_neg z] at hp
      by_cases hl : b < (L 43 x).length
      · rw [if_pos hl] at hp
        exact ⟨hl, hp⟩
      · rw [if_neg hl] at hp
        cases hp
    refine ⟨fun _ => ⟨fun _ => ⟨x, s0, hx, ?_⟩, fun w => absurd rfl w⟩, fun w => absurd rfl w⟩
    rw [b0, c50]
    exact t55 b _ (by rw [if_neg z]) (Or.inl hc)
  · refine ⟨fun w => absurd w (by decide), fun _ => ⟨fun w => absurd w (by decide), fun _ => ?_⟩⟩
    rw [b0, sb]
    refine t55 (b + 1) 0 (by rw [if_pos z]) ?_
    unfold pth at hp
    by_cases hl : (L 43 x).length = b + 1
    · rw [if_pos ⟨z, hl⟩] at hp
      exact Or.inr ⟨hl.symm, (Option.some.inj hp).symm⟩
    · rw [if_neg (fun w => hl w.2), if_pos z] at hp
      by_cases hl2 : b + 1 < (L 43 x).length
      · rw [if_pos hl2] at hp
        exact Or.inl ⟨hl2, hp⟩
      · rw [if_neg hl2] at hp
        cases hp
/-- the argument, from b on, is the word w -/
def aisP (l w : List Int32) (b : Nat) : Prop := l.length = b + w.length ∧ ∀ j : Nat, j < w.length → ix l (b + j) = w.getD j 0
theorem pl_argumentIs {x w cl : Nat} {M m : MzM} {L : MzV} {K : Int32 → MzM → Prop} (h : A1 M m L) (hc : mz_i m (12, x) 6 = Int32.ofNat cl) (hcl : cl ≤ (L 13 x).length) (hw : (mzStrB.getD w []).length ≤ 60) (h1 : aisP (L 13 x) (mzStrB.getD w []) (cl + 1) → K 1 M) (h0 : ¬ aisP (L 13 x) (mzStrB.getD w []) (cl + 1) → K 0 M) : wp_Lin_argumentIs x w M K := by
  obtain ⟨e1, e2, e3⟩ := h.line x
  have e6 : mz_i M (12, x) 6 = Int32.ofNat cl := (h.1 _ _ rfl).trans hc
  have c1 : mz_i M (12, x) 6 + 1 = Int32.ofNat (cl + 1) := i32_succ e6
  have tc : (Int32.ofNat (cl + 1)).toInt = ((cl + 1 : Nat) : Int) := itn (by omega)
  have td : (mz_i M (12, x) 2 - Int32.ofNat (cl + 1)).toInt = ((L 13 x).length : Int) - ((cl + 1 : Nat) : Int) := isub e1 tc (by omega) (by omega)
  have tw : (Int32.ofNat (mzStrB.getD w []).length).toInt = ((mzStrB.getD w []).length : Int) := itn (by omega)
  unfold wp_Lin_argumentIs
  rw [c1]
  have loop : ∀ (r i : Nat), i + r = (mzStrB.getD w []).length → (L 13 x).length = cl + 1 + (mzStrB.getD w []).length → (∀ j : Nat, j < i → ix (L 13 x) (cl + 1 + j) = (mzStrB.getD w []).getD j 0) → wp_Lin_argumentIs_24 x w K (r + 1) (Int32.ofNat (cl + 1)) (Int32.ofNat i) M := by
    intro r
    induction r with
    | zero =>
      intro i hi hl hj
      have ti : (Int32.ofNat (cl + 1) + Int32.ofNat i).toInt = ((cl + 1 + i : Nat) : Int) := by rw [iadd tc (itn (n := i) (by omega)) (by omega) (by omega)]; omega
      exact ⟨fun _ => h1 ⟨hl, fun j q => hj j (by omega)⟩, fun q => absurd ((ile e1 ti).mpr (by omega)) q⟩
    | succ r ih =>
      intro i hi hl hj
      have t0 : (Int32.ofNat i).toInt = (i : Int) := itn (by omega)
      have ti : (Int32.ofNat (cl + 1) + Int32.ofNat i).toInt = ((cl + 1 + i : Nat) : Int) := by rw [iadd tc t0 (by omega) (by omega)]; omega
      have si : Int32.ofNat i + 1 = Int32.ofNat (i + 1) := i32_succ rfl
      refine ⟨fun q => absurd ((ile e1 ti).mp q) (by omega), fun _ => ⟨cl + 1 + i, ti, by omega, i, t0, by omega, fun q => ?_, fun q => h0 (fun z => q ?_)⟩⟩
      · rw [e3 (cl + 1 + i) (by omega)] at q
        rw [si]
        refine ih (i + 1) (by omega) hl (fun j hj' => ?_)
        by_cases hji : j = i
        · rw [hji]
          exact q
        · exact hj j (by omega)
      · rw [e3 (cl + 1 + i) (by omega)]
        exact z.2 i (by omega)
  refine ⟨fun q => ⟨(mzStrB.getD w []).length + 1, loop _ 0 (by omega) ?_ (fun j hj => absurd hj (by omega))⟩, fun q => h0 (fun z => q ?_)⟩
  · have q1 := (ieq td tw).mp q
    omega
  · have z1 := z.1
    exact (ieq td tw).mpr (by omega)
theorem mo_says {x b : Nat} {c0 c1 c2 : Int32} {M m : MzM} {L : MzV} {K : Int32 → MzM → Prop} (h : A2 M m L) (hs : (mz_i m (30, 0) 29).toInt = (x : Int)) (hx : x < 2) (hb : mz_i m (30, 0) 32 = Int32.ofNat b) (hb2 : b ≤ 31) (h1 : aisP (L 43 x) [c0, c1, c2] b → K 1 M) (h0 : ¬ aisP (L 43 x) [c0, c1, c2] b → K 0 M) : wp_Mo_says c0 c1 c2 M K := by
  obtain ⟨e1, e2, e3⟩ := h.line hx
  have s0 : (mz_i M (30, 0) 29).toInt = (x : Int) := by rw [h.1 30 29 rfl]; exact hs
  have b0 : mz_i M (30, 0) 32 = Int32.ofNat b := (h.1 30 32 rfl).trans hb
  have tb : (Int32.ofNat b).toInt = (b : Int) := itn (by omega)
  have b1 : Int32.ofNat b + 1 = Int32.ofNat (b + 1) := i32_succ rfl
  have b2 : Int32.ofNat b + 2 = Int32.ofNat (b + 2) := (Int32.ofNat_add b 2).symm
  have b3 : Int32.ofNat b + 3 = Int32.ofNat (b + 3) := (Int32.ofNat_add b 3).symm
  have t3 : (Int32.ofNat (b + 3)).toInt = ((b + 3 : Nat) : Int) := itn (by omega)
  refine ⟨x, s0, hx, ?_⟩
  rw [b0, b3]
  refine ⟨fun q => h0 (fun z => q ?_), fun q => ?_⟩
  · have z1 : (L 43 x).length = b + 3 := z.1
    exact (ieq e1 t3).mpr (by omega)
  · have q1 := (ieq e1 t3).mp q
    refine mo_ch h hs hx tb (by omega) ?_
    rw [chv_ix (by omega)]
    refine ⟨fun z => h0 (fun w => z (w.2 0 (lt_ble rfl))), fun z0 => ?_⟩
    rw [b0, b1]
    refine mo_ch h hs hx (itn (n := b + 1) (by omega)) (by omega) ?_
    rw [chv_ix (by omega)]
    refine ⟨fun z => h0 (fun w => z (w.2 1 (lt_ble rfl))), fun z1 => ?_⟩
    rw [b0, b2]
    refine mo_ch h hs hx (itn (n := b + 2) (by omega)) (by omega) ?_
    rw [chv_ix (by omega)]
    refine ⟨fun z => h0 (fun w => z (w.2 2 (lt_ble rfl))), fun z2 => h1 ⟨by show _ = b + 3; omega, fun j hj => ?_⟩⟩
    have hj' : j = 0 ∨ j = 1 ∨ j = 2 := by
      have hj3 : j < 3 := hj
      omega
    rcases hj' with rfl | rfl | rfl
    · exact z0
    · exact z1
    · exact z2
