/-- are the k bytes from p all such as may stand in a name -/
def alln (l : List Int32) (p k : Nat) : Bool := match k with
  | 0 => true
  | 1 => nmC (ix l p)
  | 2 => nmC (ix l (p + 1)) && nmC (ix l p)
  | _ => nmC (ix l (p + 2)) && (nmC (ix l (p + 1)) && nmC (ix l p))
/-- the class's reading of a step from p to e -/
def rs (l : List Int32) (p e : Nat) : Int32 :=
  if e = p + 2 ∧ ix l p = 46 ∧ ix l (p + 1) = 46 then 0
  else if e < p + 1 ∨ p + 3 < e then -1
  else if alln l p (e - p) = true then nmv l p (e - p) else -1
theorem pl_readStep {x p e : Nat} {M m : MzM} {L : MzV} {K : Int32 → MzM → Prop} (h : A1 M m L) (hpe : p ≤ e) (hel : e ≤ (L 13 x).length) (hk : K (rs (L 13 x) p e) M) : wp_Path_readStep x (Int32.ofNat p) (Int32.ofNat e) M K := by
  obtain ⟨e1, e2, e3⟩ := h.line x
  have tp : (Int32.ofNat p).toInt = (p : Int) := itn (by omega)
  have te : (Int32.ofNat e).toInt = (e : Int) := itn (by omega)
  have td : (Int32.ofNat e - Int32.ofNat p).toInt = ((e - p : Nat) : Int) := by rw [isub te tp (by omega) (by omega)]; omega
  have sp : Int32.ofNat p + 1 = Int32.ofNat (p + 1) := i32_succ rfl
  have tp1 : (Int32.ofNat (p + 1)).toInt = ((p + 1 : Nat) : Int) := itn (by omega)
  have t29 : ¬ (e = p + 2 ∧ ix (L 13 x) p = 46 ∧ ix (L 13 x) (p + 1) = 46) → wp_Path_readStep_29 x K (Int32.ofNat p) (Int32.ofNat e) (Int32.ofNat e - Int32.ofNat p) M := by
    intro hn
    unfold rs at hk
    rw [if_neg hn] at hk
    refine ⟨fun q => ?_, fun q => ⟨fun q2 => ?_, fun q2 => ?_⟩⟩
    · have q1 := (ilt (n := 1) td rfl).mp q
      rw [if_pos (by omega)] at hk
      exact hk
    · have q1 : ¬ ((e - p : Nat) : Int) < 1 := fun z => q ((ilt (n := 1) td rfl).mpr z)
      have q3 := (ile (n := 3) td rfl).mp q2
      rw [if_neg (by omega)] at hk
      -- from the last byte down
      have st : ∀ (r j : Nat) (acc : Int32), p ≤ j → j < e → (nmC (ix (L 13 x) j) = true → wp_Path_readStep_49 x K r (Int32.ofNat p) (128 * acc + ix (L 13 x) j) (Int32.ofNat j + (-1)) M) → (nmC (ix (L 13 x) j) = false → K (-1) M) → wp_Path_readStep_49 x K (r + 1) (Int32.ofNat p) acc (Int32.ofNat j) M := by
        intro r j acc h1 h2 c1 c0
        have tj : (Int32.ofNat j).toInt = (j : Int) := itn (by omega)
        refine ⟨fun q => absurd ((ilt tj tp).mp q) (by omega), fun _ => ⟨j, tj, by omega, ?_⟩⟩
        rw [e3 j (by omega)]
        refine pl_nameByteC (fun z => ⟨fun _ => ⟨j, tj, by omega, ?_⟩, fun h9 => absurd h9 (by decide)⟩) (fun z => ⟨fun h9 => absurd rfl h9, fun _ => c0 z⟩)
        rw [e3 j (by omega), i32_128]
        exact c1 z
      have en : ∀ (acc : Int32), K acc M → wp_Path_readStep_49 x K 1 (Int32.ofNat p) acc (Int32.ofNat p + (-1)) M := by
        intro acc hK
        have tm : (Int32.ofNat p + (-1)).toInt = (p : Int) + (-1) := iadd tp rfl (by omega) (by omega)
        exact ⟨fun _ => hK, fun q => absurd ((ilt tm tp).mpr (by omega)) q⟩
      have s1 : ∀ j : Nat, j < 1000 → Int32.ofNat (j + 1) + (-1) = Int32.ofNat j := by
        intro j hj
        refine iofn ?_
        rw [iadd (m := ((j + 1 : Nat) : Int)) (n := -1) (itn (by omega)) rfl (by omega) (by omega)]
        omega
      have pr : Int32.ofNat e - 1 = Int32.ofNat (e - 1) := i32_pred (by rw [Nat.sub_add_cancel (by omega)]) (by omega)
      have z0 : ∀ c : Int32, (128 : Int32) * 0 + c = c := fun c => by rw [Int32.mul_zero, Int32.zero_add]
      have hc : e = p + 1 ∨ e = p + 2 ∨ e = p + 3 := by omega
      rcases hc with rfl | rfl | rfl
      · have ek : p + 1 - p = 1 := by omega
        rw [ek] at hk
        refine ⟨2, ?_⟩
        rw [pr]
        refine st 1 p 0 (by omega) (by omega) (fun z => ?_) (fun z => ?_)
        · rw [if_pos (show alln (L 13 x) p 1 = true from z)] at hk
          rw [z0]
          exact en _ hk
        · rw [if_neg (by rw [show alln (L 13 x) p 1 = nmC (ix (L 13 x) p) from rfl, z]; decide)] at hk
          exact hk
      · have ek : p + 2 - p = 2 := by omega
        rw [ek] at hk
        have ea : alln (L 13 x) p 2 = (nmC (ix (L 13 x) (p + 1)) && nmC (ix (L 13 x) p)) := rfl
        rw [ea] at hk
        refine ⟨3, ?_⟩
        rw [pr]
        refine st 2 (p + 1) 0 (by omega) (by omega) (fun z => ?_) (fun z => ?_)
        · rw [z0, s1 p (by omega)]
          refine st 1 p _ (by omega) (by omega) (fun z2 => ?_) (fun z2 => ?_)
          · rw [z, z2, if_pos (by decide)] at hk
            exact en _ hk
          · rw [z, z2, if_neg (by decide)] at hk
            exact hk
        · rw [z, if_neg (by simp)] at hk
          exact hk
      · have ek : p + 3 - p = 3 := by omega
        rw [ek] at hk
        have ea : alln (L 13 x) p 3 = (nmC (ix (L 13 x) (p + 2)) && (nmC (ix (L 13 x) (p + 1)) && nmC (ix (L 13 x) p))) := rfl
        rw [ea] at hk
        refine ⟨4, ?_⟩
        rw [pr]
        refine st 3 (p + 2) 0 (by omega) (by omega) (fun z => ?_) (fun z => ?_)
        · rw [z0, s1 (p + 1) (by omega)]
          refine st 2 (p + 1) _ (by omega) (by omega) (fun z2 => ?_) (fun z2 => ?_)
          · rw [s1 p (by omega)]
            refine st 1 p _ (by omega) (by omega) (fun z3 => ?_) (fun z3 => ?_)
            · rw [z, z2, z3, if_pos (by decide)] at hk
              exact en _ hk
            · rw [z, z2, z3, if_neg (by decide)] at hk
              exact hk
          · rw [z, z2, if_neg (by simp)] at hk
            exact hk
        · rw [z, if_neg (by simp)] at hk
          exact hk
    · have q1 : ¬ ((e - p : Nat) : Int) ≤ 3 := fun z => q2 ((ile (n := 3) td rfl).mpr z)
      rw [if_pos (by omega)] at hk
      exact hk
  refine ⟨fun q => t29 (fun z => q ?_), fun q => ?_⟩
  · exact (ieq (n := 2) td rfl).mpr (by omega)
  · have q1 := (ieq (n := 2) td rfl).mp q
    refine ⟨p, tp, by omega, ?_⟩
    rw [e3 p (by omega)]
    refine ⟨fun z => t29 (fun w => z w.2.1), fun z => ⟨p + 1, by rw [sp]; exact tp1, by omega, ?_⟩⟩
    rw [e3 (p + 1) (by omega)]
    refine ⟨fun z2 => t29 (fun w => z2 w.2.2), fun z2 => ?_⟩
    unfold rs at hk
    rw [if_pos ⟨by omega, z, z2⟩] at hk
    exact hk
/-- where the next slash, or the end, is -/
def nxt (l : List Int32) : Nat → Nat → Nat
  | 0, p => p
  | d + 1, p => if p < l.length ∧ ¬ ix l p = 47 then nxt l d (p + 1) else p
theorem nxt_spec (l : List Int32) : ∀ (d p : Nat), p + d = l.length → p ≤ nxt l d p ∧ nxt l d p ≤ l.length ∧ (∀ j : Nat, p ≤ j → j < nxt l d p → ¬ ix l j = 47) ∧ (nxt l d p = l.length ∨ ix l (nxt l d p) = 47)
  | 0, p, h => ⟨Nat.le_refl _, by show p ≤ _; omega, fun j h1 h2 => absurd h2 (by show ¬ j < p; omega), Or.inl (by show p = _; omega)⟩
  | d + 1, p, h => by
    have e : nxt l (d + 1) p = if p < l.length ∧ ¬ ix l p = 47 then nxt l d (p + 1) else p := rfl
    by_cases hc : p < l.length ∧ ¬ ix l p = 47
    · rw [e, if_pos hc]
      obtain ⟨a1, a2, a3, a4⟩ := nxt_spec l d (p + 1) (by omega)
      refine ⟨by omega, a2, fun j h1 h2 => ?_, a4⟩
      by_cases hj : j = p
      · rw [hj]
        exact hc.2
      · exact a3 j (by omega) h2
    · rw [e, if_neg hc]
      refine ⟨Nat.le_refl _, by omega, fun j h1 h2 => absurd h2 (by omega), ?_⟩
      by_cases hp : p < l.length
      · refine Or.inr ?_
        by_cases h47 : ix l p = 47
        · exact h47
        · exact absurd ⟨hp, h47⟩ hc
      · exact Or.inl (by omega)
theorem nm46 : nmC 46 = false := by decide
theorem nm47 : nmC 47 = false := by decide
theorem nmC_nat {c : Int32} (h : nmC c = true) : ∃ n : Nat, c.toInt = (n : Int) ∧ nmB n := by
  unfold nmC at h
  rw [decide_eq_true_iff] at h
  refine ⟨c.toInt.toNat, by omega, ?_⟩
  unfold nmB
  omega
theorem nmv_nmE {l : List Int32} {p k : Nat} (h1 : 1 ≤ k) (h3 : k ≤ 3) (h : alln l p k = true) : nmE (nmv l p k) := by
  have hc : k = 1 ∨ k = 2 ∨ k = 3 := by omega
  rcases hc with rfl | rfl | rfl
  · have q : nmC (ix l p) = true := h
    obtain ⟨n, e, hn⟩ := nmC_nat q
    refine ⟨n, 0, 0, hn, ?_, Or.inl ⟨rfl, rfl⟩⟩
    show ix l p = _
    rw [iofn e]
    rfl
  · have q : (nmC (ix l (p + 1)) && nmC (ix l p)) = true := h
    rw [Bool.and_eq_true] at q
    obtain ⟨n, e, hn⟩ := nmC_nat q.2
    obtain ⟨n1, e1, hn1⟩ := nmC_nat q.1
    refine ⟨n, n1, 0, hn, ?_, Or.inr ⟨hn1, Or.inl rfl⟩⟩
    show 128 * ix l (p + 1) + ix l p = _
    unfold nmB at hn hn1
    refine iofn ?_
    rw [iadd (imul (m := 128) rfl e1 (by omega) (by omega)) e (by omega) (by omega)]
    omega
  · have q : (nmC (ix l (p + 2)) && (nmC (ix l (p + 1)) && nmC (ix l p))) = true := h
    rw [Bool.and_eq_true, Bool.and_eq_true] at q
    obtain ⟨n, e, hn⟩ := nmC_nat q.2.2
    obtain ⟨n1, e1, hn1⟩ := nmC_nat q.2.1
    obtain ⟨n2, e2, hn2⟩ := nmC_nat q.1
    refine ⟨n, n1, n2, hn, ?_, Or.inr ⟨hn1, Or.inr hn2⟩⟩
    show 128 * (128 * ix l (p + 2) + ix l (p + 1)) + ix l p = _
    unfold nmB at hn hn1 hn2
    refine iofn ?_
    have g1 := iadd (imul (a := 128) (m := 128) rfl e2 (by omega) (by omega)) e1 (by omega) (by omega)
    rw [iadd (imul (m := 128) rfl g1 (by omega) (by omega)) e (by omega) (by omega)]
    omega
theorem nmE_ne {v : Int32} (h : nmE v) : ¬ v = -1 ∧ ¬ v = 0 := by
  obtain ⟨a, b, c, ha, e, hb⟩ := h
  unfold nmB at ha hb
  have t : v.toInt = ((a + 128 * b + 16384 * c : Nat) : Int) := by rw [e]; exact itn (by omega)
  refine ⟨fun z => ?_, fun z => ?_⟩
  · have q := (ieq (n := -1) t rfl).mp z
    omega
  · have q := (ieq (n := 0) t rfl).mp z
    omega
/-- the class's step and the reference's end are the same -/
theorem rs_se {l : List Int32} {p e : Nat} (hp : p ≤ e) (he : e ≤ l.length) (hn : ∀ j : Nat, p ≤ j → j < e → ¬ ix l j = 47) (hx : e = l.length ∨ ix l e = 47) : (se l p = e ∧ p < e ∧ rs l p e = sv l p ∧ ¬ rs l p e = -1) ∨ (rs l p e = -1 ∧ ¬ (p < se l p ∧ (se l p = l.length ∨ chv l (se l p) = 47))) := by
  have cx : ∀ j : Nat, j < e → chv l j = ix l j := fun j hj => chv_ix (by omega)
  have ce : nmC (chv l e) = false ∧ ¬ chv l e = 46 := by
    by_cases hl : e < l.length
    · rcases hx with hx | hx
      · omega
      · rw [chv_ix hl, hx]
        decide
    · rw [chv_none hl]
      decide
  have lt : se l p < e → ¬ (p < se l p ∧ (se l p = l.length ∨ chv l (se l p) = 47)) := by
    rintro hl ⟨h1, h2⟩
    rcases h2 with h2 | h2
    · omega
    · rw [cx _ hl] at h2
      exact hn _ (by omega) hl h2
  have F : ∀ b : Bool, b = false → ¬ b = true := fun b h => by rw [h]; decide
  by_cases h4 : p + 3 < e
  · refine Or.inr ⟨?_, lt (by have := (se_ge l p).2; omega)⟩
    unfold rs
    rw [if_neg (by omega), if_pos (by omega)]
  · have hk : e = p ∨ e = p + 1 ∨ e = p + 2 ∨ e = p + 3 := by omega
    rcases hk with rfl | rfl | rfl | rfl
    · refine Or.inr ⟨?_, ?_⟩
      · unfold rs
        rw [if_neg (by omega), if_pos (by omega)]
      · have es : se l e = e := by
          unfold se
          rw [if_neg (fun z => ce.2 z.1), if_neg (F _ ce.1)]
        rw [es]
        omega
    · have ek : p + 1 - p = 1 := by omega
      have n2 : ¬ (chv l p = 46 ∧ chv l (p + 1) = 46) := fun z => ce.2 z.2
      by_cases c0 : nmC (ix l p) = true
      · have es : se l p = p + 1 := by
          unfold se
          rw [if_neg n2, cx p (by omega), if_pos c0, if_neg (F _ ce.1)]
        have a1 : alln l p 1 = true := c0
        have er : rs l p (p + 1) = nmv l p 1 := by
          unfold rs
          rw [if_neg (by omega), if_neg (by omega), ek, if_pos a1]
        have ev : sv l p = nmv l p 1 := by
          unfold sv
          rw [es, ek, if_neg]
          intro z
          rw [cx p (by omega)] at z
          rw [z, nm46] at c0
          exact absurd c0 (by decide)
        refine Or.inl ⟨es, by omega, by rw [er, ev], ?_⟩
        rw [er]
        exact (nmE_ne (nmv_nmE (by omega) (by omega) a1)).1
      · have es : se l p = p := by
          unfold se
          rw [if_neg n2, cx p (by omega), if_neg c0]
        refine Or.inr ⟨?_, by rw [es]; omega⟩
        unfold rs
        rw [if_neg (by omega), if_neg (by omega), ek, if_neg (show ¬ alln l p 1 = true from c0)]
    · have ek : p + 2 - p = 2 := by omega
      by_cases d : chv l p = 46 ∧ chv l (p + 1) = 46
      · have es : se l p = p + 2 := by
          unfold se
          rw [if_pos d]
        have er : rs l p (p + 2) = 0 := by
          unfold rs
          rw [if_pos ⟨rfl, by rw [← cx p (by omega)]; exact d.1, by rw [← cx (p + 1) (by omega)]; exact d.2⟩]
        have ev : sv l p = 0 := by
          unfold sv
          rw [if_pos d.1]
        exact Or.inl ⟨es, by omega, by rw [er, ev], by rw [er]; decide⟩
      · have nd : ¬ (p + 2 = p + 2 ∧ ix l p = 46 ∧ ix l (p + 1) = 46) := fun z => d ⟨by rw [cx p (by omega)]; exact z.2.1, by rw [cx (p + 1) (by omega)]; exact z.2.2⟩
        by_cases c0 : nmC (ix l p) = true
        · by_cases c1 : nmC (ix l (p + 1)) = true
          · have es : se l p = p + 2 := by
              unfold se
              rw [if_neg d, cx p (by omega), if_pos c0, cx (p + 1) (by omega), if_pos c1, if_neg (F _ ce.1)]
            have a2 : alln l p 2 = true := by
              show (nmC (ix l (p + 1)) && nmC (ix l p)) = true
              rw [c0, c1]
              rfl
            have er : rs l p (p + 2) = nmv l p 2 := by
              unfold rs
              rw [if_neg nd, if_neg (by omega), ek, if_pos a2]
            have ev : sv l p = nmv l p 2 := by
              unfold sv
              rw [es, ek, if_neg]
              intro z
              rw [cx p (by omega)] at z
              rw [z, nm46] at c0
              exact absurd c0 (by decide)
            refine Or.inl ⟨es, by omega, by rw [er, ev], ?_⟩
            rw [er]
            exact (nmE_ne (nmv_nmE (by omega) (by omega) a2)).1
          · have es : se l p = p + 1 := by
              unfold se
              rw [if_neg d, cx p (by omega), if_pos c0, cx (p + 1) (by omega), if_neg c1]
            refine Or.inr ⟨?_, lt (by omega)⟩
            unfold rs
            rw [if_neg nd, if_neg (by omega), ek, if_neg]
            show ¬ (nmC (ix l (p + 1)) && nmC (ix l p)) = true
            rw [Bool.and_eq_true]
            exact fun z => c1 z.1
        · have es : se l p = p := by
            unfold se
            rw [if_neg d, cx p (by omega), if_neg c0]
          refine Or.inr ⟨?_, by rw [es]; omega⟩
          unfold rs
          rw [if_neg nd, if_neg (by omega), ek, if_neg]
          show ¬ (nmC (ix l (p + 1)) && nmC (ix l p)) = true
          rw [Bool.and_eq_true]
          exact fun z => c0 z.2
    · have ek : p + 3 - p = 3 := by omega
      have nd : ¬ (p + 3 = p + 2 ∧ ix l p = 46 ∧ ix l (p + 1) = 46) := fun z => by omega
      have rn : ¬ (nmC (ix l (p + 2)) = true ∧ nmC (ix l (p + 1)) = true ∧ nmC (ix l p) = true) → rs l p (p + 3) = -1 := by
        intro hz
        unfold rs
        rw [if_neg nd, if_neg (by omega), ek, if_neg]
        show ¬ (nmC (ix l (p + 2)) && (nmC (ix l (p + 1)) && nmC (ix l p))) = true
        rw [Bool.and_eq_true, Bool.and_eq_true]
        exact hz
      by_cases d : chv l p = 46 ∧ chv l (p + 1) = 46
      · have es : se l p = p + 2 := by
          unfold se
          rw [if_pos d]
        refine Or.inr ⟨rn (fun z => ?_), lt (by omega)⟩
        have z3 := z.2.2
        rw [← cx p (by omega), d.1, nm46] at z3
        exact absurd z3 (by decide)
      · by_cases c0 : nmC (ix l p) = true
        · by_cases c1 : nmC (ix l (p + 1)) = true
          · by_cases c2 : nmC (ix l (p + 2)) = true
            · have es : se l p = p + 3 := by
                unfold se
                rw [if_neg d, cx p (by omega), if_pos c0, cx (p + 1) (by omega), if_pos c1, cx (p + 2) (by omega), if_pos c2]
              have a3 : alln l p 3 = true := by
                show (nmC (ix l (p + 2)) && (nmC (ix l (p + 1)) && nmC (ix l p))) = true
                rw [c0, c1, c2]
                rfl
              have er : rs l p (p + 3) = nmv l p 3 := by
                unfold rs
                rw [if_neg nd, if_neg (by omega), ek, if_pos a3]
              have ev : sv l p = nmv l p 3 := by
                unfold sv
                rw [es, ek, if_neg]
                intro z
                rw [cx p (by omega)] at z
                rw [z, nm46] at c0
                exact absurd c0 (by decide)
              refine Or.inl ⟨es, by omega, by rw [er, ev], ?_⟩
              rw [er]
              exact (nmE_ne (nmv_nmE (by omega) (by omega) a3)).1
            · have es : se l p = p + 2 := by
                unfold se
                rw [if_neg d, cx p (by omega), if_pos c0, cx (p + 1) (by omega), if_pos c1, cx (p + 2) (by omega), if_neg c2]
              exact Or.inr ⟨rn (fun z => c2 z.1), lt (by omega)⟩
          · have es : se l p = p + 1 := by
              unfold se
              rw [if_neg d, cx p (by omega), if_pos c0, cx (p + 1) (by omega), if_neg c1]
            exact Or.inr ⟨rn (fun z => c1 z.2.1), lt (by omega)⟩
        · have es : se l p = p := by
            unfold se
            rw [if_neg d, cx p (by omega), if_neg c0]
          exact Or.inr ⟨rn (fun z => c0 z.2.2), by rw [es]; omega⟩
