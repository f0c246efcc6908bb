def val (f : Nat → Nat) : Nat → Nat
  | 0 => 0
  | n + 1 => 128 * val f n + f n
theorem val_congr {f g : Nat → Nat} : ∀ n : Nat, (∀ j : Nat, j < n → f j = g j) → val f n = val g n
  | 0, _ => rfl
  | n + 1, h => by
    show 128 * val f n + f n = 128 * val g n + g n
    rw [val_congr n (fun j hj => h j (by omega)), h n (by omega)]
theorem val_lt {f : Nat → Nat} : ∀ n : Nat, (∀ j : Nat, j < n → f j < 128) → n ≤ 4 → val f n < 268435456 ∧ (n ≤ 3 → val f n < 2097152) ∧ (n ≤ 2 → val f n < 16384) ∧ (n ≤ 1 → val f n < 128) ∧ (n = 0 → val f n = 0)
  | 0, _, _ => ⟨by show 0 < _; omega, fun _ => by show 0 < _; omega, fun _ => by show 0 < _; omega, fun _ => by show 0 < _; omega, fun _ => rfl⟩
  | n + 1, h, hn => by
    have ih := val_lt n (fun j hj => h j (by omega)) (by omega)
    have hf := h n (by omega)
    have e : val f (n + 1) = 128 * val f n + f n := rfl
    rw [e]
    refine ⟨?_, fun q => ?_, fun q => ?_, fun q => ?_, fun q => ?_⟩
    · have := ih.2.1 (by omega)
      omega
    · have := ih.2.2.1 (by omega)
      omega
    · have := ih.2.2.2.1 (by omega)
      omega
    · have := ih.2.2.2.2 (by omega)
      omega
    · omega
theorem val_inj {f g : Nat → Nat} : ∀ n k : Nat, (∀ j : Nat, j < n → 0 < f j ∧ f j < 128) → (∀ j : Nat, j < k → 0 < g j ∧ g j < 128) → val f n = val g k → n = k ∧ ∀ j : Nat, j < n → f j = g j
  | 0, 0, _, _, _ => ⟨rfl, fun j hj => absurd hj (by omega)⟩
  | 0, k + 1, _, hg, h => by
    have h' : 0 = 128 * val g k + g k := h
    have := hg k (by omega)
    omega
  | n + 1, 0, hf, _, h => by
    have h' : 128 * val f n + f n = 0 := h
    have := hf n (by omega)
    omega
  | n + 1, k + 1, hf, hg, h => by
    have h' : 128 * val f n + f n = 128 * val g k + g k := h
    have h1 := hf n (by omega)
    have h2 := hg k (by omega)
    obtain ⟨e1, e2⟩ := val_inj n k (fun j hj => hf j (by omega)) (fun j hj => hg j (by omega)) (by omega)
    refine ⟨by omega, fun j hj => ?_⟩
    by_cases hjn : j = n
    · subst hjn
      subst e1
      omega
    · exact e2 j (by omega)
def cN (l : List Int32) (j : Nat) : Nat := (upc (ix l j)).toInt.toNat
def wN (w : List Int32) (j : Nat) : Nat := (w.getD j 0).toInt.toNat
/-- a byte that the reference counts into a word -/
def gch (l : List Int32) (j : Nat) : Prop := 0 < (upc (ix l j)).toInt ∧ (upc (ix l j)).toInt < 128
def fndL (w : Int32) : List Nat → Int32 → Int32
  | [], acc => acc
  | v :: vs, acc => fndL w vs (if wdT.getD v 0 = w then Int32.ofNat v else acc)
theorem fndL_none {w : Int32} : ∀ (vs : List Nat) (acc : Int32), (∀ v, v ∈ vs → ¬ wdT.getD v 0 = w) → fndL w vs acc = acc
  | [], _, _ => rfl
  | v :: vs, acc, h => by
    show fndL w vs (if wdT.getD v 0 = w then Int32.ofNat v else acc) = acc
    rw [if_neg (h v (by simp)), fndL_none vs acc (fun v' hv' => h v' (by simp [hv']))]
def cmdOf (w : Int32) : Int32 := fndL w (List.range' 1 21) 0
theorem wd_vals : ∀ i : Nat, i < 21 → wdT.getD (i + 1) 0 = Int32.ofNat (val (wN (wdL i)) (wdL i).length) ∧ cmdOf (Int32.ofNat (val (wN (wdL i)) (wdL i).length)) = Int32.ofNat (i + 1) ∧ (wdL i).length ≤ 4 ∧ ∀ j : Nat, j < (wdL i).length → 0 < ((wdL i).getD j 0).toInt ∧ ((wdL i).getD j 0).toInt < 128 := by decide +kernel
theorem mtc_good {l : List Int32} {cl i : Nat} (hi : i < 21) (h : mtc l (wdL i) cl) : cl ≤ 4 ∧ (∀ j : Nat, j < cl → gch l j) ∧ cmdOf (Int32.ofNat (val (cN l) cl)) = Int32.ofNat (i + 1) := by
  obtain ⟨q1, q2, q3, q4⟩ := wd_vals i hi
  obtain ⟨h1, h2⟩ := h
  rw [h1] at q1 q2 q3 q4
  refine ⟨q3, fun j hj => ?_, ?_⟩
  · unfold gch
    rw [h2 j hj]
    exact q4 j hj
  · have e : val (cN l) cl = val (wN (wdL i)) cl := val_congr cl (fun j hj => by unfold cN wN; rw [h2 j hj])
    rw [e]
    exact q2
theorem good_mtc {l : List Int32} {cl i : Nat} (hi : i < 21) (hcl : cl ≤ 4) (hg : ∀ j : Nat, j < cl → gch l j) (h : wdT.getD (i + 1) 0 = Int32.ofNat (val (cN l) cl)) : mtc l (wdL i) cl := by
  obtain ⟨q1, q2, q3, q4⟩ := wd_vals i hi
  rw [q1] at h
  have b1 := val_lt (f := wN (wdL i)) (wdL i).length (fun j hj => by unfold wN; have := q4 j hj; omega) q3
  have b2 := val_lt (f := cN l) cl (fun j hj => by unfold cN; have := hg j hj; unfold gch at this; omega) hcl
  have e := ofN_inj (by omega) (by omega) h
  obtain ⟨e1, e2⟩ := val_inj _ _ (fun j hj => by unfold wN; have := q4 j hj; omega) (fun j hj => by unfold cN; have := hg j hj; unfold gch at this; omega) e
  refine ⟨e1, fun j hj => ?_⟩
  have z := e2 j (by omega)
  unfold wN cN at z
  have z1 := q4 j (by omega)
  have z2 := hg j hj
  unfold gch at z2
  exact Int32.toInt_inj.mp (by omega)
theorem none_cmd {l : List Int32} {cl : Nat} (hcl : cl ≤ 4) (hg : ∀ j : Nat, j < cl → gch l j) (h : ∀ i : Nat, i < 21 → ¬ mtc l (wdL i) cl) : cmdOf (Int32.ofNat (val (cN l) cl)) = 0 := by
  unfold cmdOf
  refine fndL_none _ _ (fun v hv z => ?_)
  rw [List.mem_range'_1] at hv
  have hv' : v = v - 1 + 1 := by omega
  rw [hv'] at z
  exact h (v - 1) (by omega) (good_mtc (by omega) hcl hg z)
def chv (l : List Int32) (k : Nat) : Int32 := if k < l.length then ix l k else -1
theorem mo_ch {x k : Nat} {a : Int32} {M m : MzM} {L : MzV} {K : Int32 → MzM → Prop} (h : A2 M m L) (hs : (mz_i m (30, 0) 29).toInt = (x : Int)) (hx : x < 2) (ha : a.toInt = (k : Int)) (hk : k ≤ 1000) (h1 : K (chv (L 43 x) k) M) : wp_Mo_ch a M K := by
  have s0 : (mz_i M (30, 0) 29).toInt = (x : Int) := by rw [h.1 30 29 rfl]; exact hs
  obtain ⟨e1, e2, e3⟩ := h.line hx
  refine ⟨x, s0, hx, fun q => ?_, fun q => ?_⟩
  · have q1 := (ile e1 ha).mp q
    have e : chv (L 43 x) k = -1 := by unfold chv; rw [if_neg (by omega)]
    rw [e] at h1
    exact h1
  · have q1 : ¬ ((L 43 x).length : Int) ≤ (k : Int) := fun z => q ((ile e1 ha).mpr z)
    have e : chv (L 43 x) k = ix (L 43 x) k := by unfold chv; rw [if_pos (by omega)]
    rw [e] at h1
    have e5 : ((30 : Int32) * mz_i M (30, 0) 29).toInt = 30 * (x : Int) := imul (m := 30) rfl s0 (by omega) (by omega)
    have e6 : (((30 : Int32) * mz_i M (30, 0) 29) + a).toInt = ((30 * x + k : Nat) : Int) := by rw [iadd e5 ha (by omega) (by omega)]; omega
    refine ⟨30 * x + k, e6, by omega, ?_⟩
    rw [e3 k (by omega)]
    exact h1
theorem mo_find {w : Int32} {M m : MzM} {L : MzV} {K : Int32 → MzM → Prop} (h : A2 M m L) (hw : wdE m) (h0 : w ≤ 0 → K 0 M) (h1 : ¬ w ≤ 0 → K (cmdOf w) M) : wp_Mo_command_117 K 22 w 0 1 M := by
  have lp : ∀ (r v : Nat) (acc : Int32), v + r = 22 → 1 ≤ v → ((w ≤ 0 → K acc M) ∧ (¬ w ≤ 0 → K (fndL w (List.range' v r) acc) M)) → wp_Mo_command_117 K (r + 1) w acc (Int32.ofNat v) M := by
    intro r
    induction r with
    | zero =>
      intro v acc hv _ hk
      have hv' : v = 22 := by omega
      subst hv'
      refine ⟨fun _ => ?_, fun h9 => absurd (by decide) h9⟩
      by_cases z : w ≤ 0
      · exact hk.1 z
      · exact hk.2 z
    | succ r ih =>
      intro v acc hv h1v hk
      have ev : (Int32.ofNat v).toInt = (v : Int) := itn (by omega)
      have es : Int32.ofNat v + 1 = Int32.ofNat (v + 1) := i32_succ rfl
      refine ⟨fun h9 => absurd ((ilt (m := 21) rfl ev).mp h9) (by omega), fun _ => ⟨fun z => ?_, fun z => ⟨v, ev, by omega, fun z2 => ?_, fun z2 => ?_⟩⟩⟩
      · show wp_Mo_command_117 K (r + 1) w acc (Int32.ofNat v + 1) M
        rw [es]
        exact ih (v + 1) acc (by omega) (by omega) ⟨hk.1, fun q => absurd z q⟩
      · show wp_Mo_command_117 K (r + 1) w acc (Int32.ofNat v + 1) M
        rw [es]
        rw [h.1 31 v rfl, hw v (by omega)] at z2
        refine ih (v + 1) acc (by omega) (by omega) ⟨hk.1, fun q => ?_⟩
        have g := hk.2 q
        have e : fndL w (List.range' v (r + 1)) acc = fndL w (List.range' (v + 1) r) (if wdT.getD v 0 = w then Int32.ofNat v else acc) := rfl
        rw [e, if_neg z2] at g
        exact g
      · show wp_Mo_command_117 K (r + 1) w (Int32.ofNat v) (Int32.ofNat v + 1) M
        rw [es]
        rw [h.1 31 v rfl, hw v (by omega)] at z2
        refine ih (v + 1) (Int32.ofNat v) (by omega) (by omega) ⟨fun q => absurd q z, fun q => ?_⟩
        have g := hk.2 q
        have e : fndL w (List.range' v (r + 1)) acc = fndL w (List.range' (v + 1) r) (if wdT.getD v 0 = w then Int32.ofNat v else acc) := rfl
        rw [e, if_pos z2] at g
        exact g
  exact lp 21 1 0 (by omega) (by omega) ⟨h0, h1⟩
theorem upc_ref {c : Int32} (h1 : ¬ c < 97) (h2 : ¬ 122 < c) : upc c = c - 32 := by
  unfold upc
  rw [if_neg h1, if_neg h2]
  have q1 : ¬ c.toInt < 97 := fun q => h1 ((ilt (n := 97) rfl rfl).mpr q)
  have q2 : ¬ 122 < c.toInt := fun q => h2 ((ilt (m := 122) rfl rfl).mpr q)
  have e1 : (c - 97).toInt = c.toInt - 97 := isub (n := 97) rfl rfl (by omega) (by omega)
  have e2 : (c - 97 + 65).toInt = c.toInt - 97 + 65 := iadd (n := 65) e1 rfl (by omega) (by omega)
  have e3 : (c - 32).toInt = c.toInt - 32 := isub (n := 32) rfl rfl (by omega) (by omega)
  refine Int32.toInt_inj.mp ?_
  rw [e2, e3]
  omega
theorem spc_spec : ∀ l : List Int32, (∀ j : Nat, j < spc l → ¬ ix l j = 32) ∧ (spc l < l.length → ix l (spc l) = 32)
  | [] => ⟨fun j hj => absurd hj (by simp [spc]), fun h => absurd h (by simp [spc])⟩
  | c :: t => by
    obtain ⟨i1, i2⟩ := spc_spec t
    unfold spc
    by_cases hc : c = 32
    · rw [if_pos hc]
      exact ⟨fun j hj => absurd hj (by omega), fun _ => hc⟩
    · rw [if_neg hc]
      refine ⟨fun j hj => ?_, fun h => i2 (by simp only [List.length_cons] at h; omega)⟩
      cases j with
      | zero => exact hc
      | succ j => exact i1 j (by omega)
/-- the reference's reading of a line's command -/
theorem mo_command {x : Nat} {M m : MzM} {L : MzV} {K : Int32 → MzM → Prop} (h : A2 M m L) (hw : wdE m) (hs : (mz_i m (30, 0) 29).toInt = (x : Int)) (hx : x < 2) (hg : spc (L 43 x) ≤ 4 → (∀ j : Nat, j < spc (L 43 x) → gch (L 43 x) j) → ∀ M', A2 M' (mz_si m (30, 0) 32 (Int32.ofNat (spc (L 43 x) + 1))) L → K (cmdOf (Int32.ofNat (val (cN (L 43 x)) (spc (L 43 x))))) M') (hb : ¬ (spc (L 43 x) ≤ 4 ∧ ∀ j : Nat, j < spc (L 43 x) → gch (L 43 x) j) → ∀ M', A2 M' (mz_si m (30, 0) 32 (Int32.ofNat ((L 43 x).length + 1))) L → K 0 M') : wp_Mo_command M K := by
  obtain ⟨e1, e2, e3⟩ := h.line hx
  have s0 : (mz_i M (30, 0) 29).toInt = (x : Int) := by rw [h.1 30 29 rfl]; exact hs
  have hcl := spc_le (L 43 x)
  obtain ⟨nsp, spx⟩ := spc_spec (L 43 x)
  have e105 : ∀ (n : Nat) (y1 w : Int32), y1 = Int32.ofNat n → (∀ M', A2 M' (mz_si m (30, 0) 32 (Int32.ofNat (n + 1))) L → (w ≤ 0 → K 0 M') ∧ (¬ w ≤ 0 → K (cmdOf w) M')) → wp_Mo_command_105 K y1 w M := by
    intro n y1 w hy hk
    rintro _ rfl
    have h' := h.si (t := 30) (k := 32) (v := y1 + 1) rfl
    have e : y1 + 1 = Int32.ofNat (n + 1) := i32_succ hy
    rw [e] at h' ⊢
    have hk' := hk _ h'
    exact ⟨22, mo_find h' hw hk'.1 hk'.2⟩
  have badx : ∀ (r : Nat) (y1 : Int32), ¬ (spc (L 43 x) ≤ 4 ∧ ∀ j : Nat, j < spc (L 43 x) → gch (L 43 x) j) → wp_Mo_command_80 (wp_Mo_command_4 K (r + 1)) K y1 M := by
    intro r y1 hbad
    refine ⟨fun h9 => absurd h9 (by decide), fun _ => ⟨x, s0, hx, ?_⟩⟩
    show wp_Mo_command_4 K (r + 1) (mz_i M (41, 0) x) (-1) M
    refine ⟨x, s0, hx, fun _ => e105 (L 43 x).length _ _ (iofn e1) (fun M' h' => ⟨fun _ => hb hbad M' h', fun h9 => absurd (by decide) h9⟩), fun h9 => absurd ((ile e1 e1).mpr (by omega)) h9⟩
  have lp : ∀ (r n : Nat), n + r = spc (L 43 x) → n ≤ 4 → (∀ j : Nat, j < n → gch (L 43 x) j) → wp_Mo_command_4 K (r + 1) (Int32.ofNat n) (Int32.ofNat (val (cN (L 43 x)) n)) M := by
    intro r
    induction r with
    | zero =>
      intro n hn h4 hgc
      have hn' : n = spc (L 43 x) := by omega
      have en : (Int32.ofNat n).toInt = (n : Int) := itn (by omega)
      have bl := val_lt (f := cN (L 43 x)) n (fun j hj => by unfold cN; have := hgc j hj; unfold gch at this; omega) h4
      have x105 : wp_Mo_command_105 K (Int32.ofNat n) (Int32.ofNat (val (cN (L 43 x)) n)) M := by
        refine e105 n _ _ rfl (fun M' h' => ?_)
        rw [hn'] at h' h4 hgc bl ⊢
        have g := hg h4 hgc M' h'
        refine ⟨fun z => ?_, fun _ => g⟩
        have z1 := (ile (n := 0) (itn (n := val (cN (L 43 x)) (spc (L 43 x))) (by omega)) rfl).mp z
        have z2 : val (cN (L 43 x)) (spc (L 43 x)) = 0 := by omega
        rw [z2] at g
        have e0 : cmdOf (Int32.ofNat 0) = 0 := by decide +kernel
        rw [e0] at g
        exact g
      refine ⟨x, s0, hx, fun _ => x105, fun q => ?_⟩
      have q1 : ¬ ((L 43 x).length : Int) ≤ (n : Int) := fun z => q ((ile e1 en).mpr z)
      have c32 : chv (L 43 x) n = 32 := by
        unfold chv
        rw [if_pos (by omega), hn']
        exact spx (by omega)
      refine mo_ch h hs hx en (by omega) ?_
      rw [c32]
      exact ⟨fun _ => x105, fun h9 => absurd rfl h9⟩
    | succ r ih =>
      intro n hn h4 hgc
      have en : (Int32.ofNat n).toInt = (n : Int) := itn (by omega)
      have cx : chv (L 43 x) n = ix (L 43 x) n := by unfold chv; rw [if_pos (by omega)]
      have bl := val_lt (f := cN (L 43 x)) n (fun j hj => by unfold cN; have := hgc j hj; unfold gch at this; omega) h4
      have t53 : ∀ c : Int32, c = upc (ix (L 43 x) n) → wp_Mo_command_53 (wp_Mo_command_4 K (r + 1)) K (Int32.ofNat n) (Int32.ofNat (val (cN (L 43 x)) n)) c M := by
        intro c hc
        refine ⟨fun q => badx r _ (fun z => ?_), fun q => ⟨fun q2 => badx r _ (fun z => ?_), fun q2 => ⟨fun q3 => badx r _ (fun z => ?_), fun q3 => ?_⟩⟩⟩
        · have q1 := (ile (m := 4) rfl en).mp q
          omega
        · have z1 := z.2 n (by omega)
          unfold gch at z1
          rw [← hc] at z1
          have q1 := (ile (n := 0) rfl rfl).mp q2
          omega
        · have z1 := z.2 n (by omega)
          unfold gch at z1
          rw [← hc] at z1
          have q1 := (ile (m := 128) rfl rfl).mp q3
          omega
        · have g1 : ¬ (4 : Int) ≤ (n : Int) := fun z => q ((ile (m := 4) rfl en).mpr z)
          have g2 : ¬ c.toInt ≤ 0 := fun z => q2 ((ile (n := 0) rfl rfl).mpr z)
          have g3 : ¬ 128 ≤ c.toInt := fun z => q3 ((ile (m := 128) rfl rfl).mpr z)
          have b3 := bl.2.1 (by omega)
          have ev : (Int32.ofNat (val (cN (L 43 x)) n)).toInt = ((val (cN (L 43 x)) n : Nat) : Int) := itn (by omega)
          have em : ((128 : Int32) * Int32.ofNat (val (cN (L 43 x)) n)).toInt = 128 * ((val (cN (L 43 x)) n : Nat) : Int) := imul (m := 128) rfl ev (by omega) (by omega)
          have ec : (cN (L 43 x) n : Int) = c.toInt := by
            unfold cN
            rw [← hc]
            omega
          have ew : (((128 : Int32) * Int32.ofNat (val (cN (L 43 x)) n)) + c).toInt = ((val (cN (L 43 x)) (n + 1) : Nat) : Int) := by
            rw [iadd em rfl (by omega) (by omega)]
            show _ = ((128 * val (cN (L 43 x)) n + cN (L 43 x) n : Nat) : Int)
            omega
          have es : Int32.ofNat n + 1 = Int32.ofNat (n + 1) := i32_succ rfl
          refine ⟨fun _ => ?_, fun h9 => absurd ((ile (m := 0) rfl ew).mpr (by omega)) h9⟩
          show wp_Mo_command_4 K (r + 1) (Int32.ofNat n + 1) _ M
          rw [es, iofn ew]
          refine ih (n + 1) (by omega) (by omega) (fun j hj => ?_)
          by_cases hjn : j = n
          · rw [hjn]
            unfold gch
            rw [← hc]
            omega
          · exact hgc j (by omega)
      refine ⟨x, s0, hx, fun q => absurd ((ile e1 en).mp q) (by omega), fun _ => mo_ch h hs hx en (by omega) ?_⟩
      rw [cx]
      refine ⟨fun q => absurd q (nsp n (by omega)), fun _ => mo_ch h hs hx en (by omega) ?_⟩
      rw [cx]
      refine ⟨fun q => t53 _ ?_, fun q => ⟨fun q2 => t53 _ ?_, fun q2 => t53 _ (upc_ref q q2).symm⟩⟩
      · unfold upc
        rw [if_pos q]
      · unfold upc
        rw [if_neg q, if_pos q2]
  exact ⟨spc (L 43 x) + 1, lp (spc (L 43 x)) 0 (by omega) (by omega) (fun j hj => absurd hj (by omega))⟩
