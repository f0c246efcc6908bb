/-! paths -/
/-- a byte that may stand in a name -/
def nmC (c : Int32) : Bool := decide ((97 ≤ c.toInt ∧ c.toInt ≤ 122) ∨ (48 ≤ c.toInt ∧ c.toInt ≤ 57))
theorem mo_letterC {v : Int32} {M : MzM} {K : Int32 → MzM → Prop} (h1 : nmC v = true → K 1 M) (h0 : nmC v = false → K 0 M) : wp_Mo_isLetter v M K := by
  unfold nmC at h1 h0
  rw [decide_eq_true_iff] at h1
  rw [decide_eq_false_iff_not] at h0
  have hv : v.toInt = v.toInt := rfl
  have h97 : v < 97 ↔ v.toInt < 97 := ilt (b := 97) (n := 97) hv rfl
  have h48 : v < 48 ↔ v.toInt < 48 := ilt (b := 48) (n := 48) hv rfl
  have h57 : 57 < v ↔ 57 < v.toInt := ilt (a := 57) (m := 57) rfl hv
  have h122 : v ≤ 122 ↔ v.toInt ≤ 122 := ile (b := 122) (n := 122) hv rfl
  refine ⟨fun a => ?_, fun a => ?_⟩
  · have a' := h97.mp a
    refine ⟨fun b => h0 ?_, fun b => ⟨fun c => h0 ?_, fun c => h1 ?_⟩⟩
    · have b' := h48.mp b
      omega
    · have c' := h57.mp c
      omega
    · have b' : ¬ v.toInt < 48 := fun q => b (h48.mpr q)
      have c' : ¬ 57 < v.toInt := fun q => c (h57.mpr q)
      omega
  · have a' : ¬ v.toInt < 97 := fun q => a (h97.mpr q)
    refine ⟨fun b => h1 ?_, fun b => ⟨fun c => h0 ?_, fun c => ⟨fun d => h0 ?_, fun d => h1 ?_⟩⟩⟩
    · have b' := h122.mp b
      omega
    · have c' := h48.mp c
      omega
    · have b' : ¬ v.toInt ≤ 122 := fun q => b (h122.mpr q)
      have d' := h57.mp d
      omega
    · have d' : ¬ 57 < v.toInt := fun q => d (h57.mpr q)
      omega
theorem pl_nameByteC {v : Int32} {M : MzM} {K : Int32 → MzM → Prop} (h1 : nmC v = true → K 1 M) (h0 : nmC v = false → K 0 M) : wp_PL_isNameByte v M K := by
  unfold nmC at h1 h0
  rw [decide_eq_true_iff] at h1
  rw [decide_eq_false_iff_not] at h0
  have hv : v.toInt = v.toInt := rfl
  have h97 : v < 97 ↔ v.toInt < 97 := ilt (b := 97) (n := 97) hv rfl
  have h48 : v < 48 ↔ v.toInt < 48 := ilt (b := 48) (n := 48) hv rfl
  have h57 : 57 < v ↔ 57 < v.toInt := ilt (a := 57) (m := 57) rfl hv
  have h122 : v ≤ 122 ↔ v.toInt ≤ 122 := ile (b := 122) (n := 122) hv rfl
  refine ⟨fun a => ?_, fun a => ?_⟩
  · have a' := h97.mp a
    refine ⟨fun b => h0 ?_, fun b => ⟨fun c => h0 ?_, fun c => h1 ?_⟩⟩
    · have b' := h48.mp b
      omega
    · have c' := h57.mp c
      omega
    · have b' : ¬ v.toInt < 48 := fun q => b (h48.mpr q)
      have c' : ¬ 57 < v.toInt := fun q => c (h57.mpr q)
      omega
  · have a' : ¬ v.toInt < 97 := fun q => a (h97.mpr q)
    refine ⟨fun b => h1 ?_, fun b => ⟨fun c => h0 ?_, fun c => ⟨fun d => h0 ?_, fun d => h1 ?_⟩⟩⟩
    · have b' := h122.mp b
      omega
    · have c' := h48.mp c
      omega
    · have b' : ¬ v.toInt ≤ 122 := fun q => b (h122.mpr q)
      have d' := h57.mp d
      omega
    · have d' : ¬ 57 < v.toInt := fun q => d (h57.mpr q)
      omega
/-- where the reference sees a step of a path end -/
def se (l : List Int32) (p : Nat) : Nat :=
  if chv l p = 46 ∧ chv l (p + 1) = 46 then p + 2
  else if nmC (chv l p) = true then (if nmC (chv l (p + 1)) = true then (if nmC (chv l (p + 2)) = true then p + 3 else p + 2) else p + 1) else p
theorem mo_stepEnd {x p : Nat} {a : Int32} {M m : MzM} {L : MzV} {K : Int32 → MzM → Prop} (h : A2 M m L) (hs : (mz_i m (30, 0) 29).toInt = (x : Int)) (hx : x < 2) (ha : a = Int32.ofNat p) (hp : p ≤ 100) (hk : K (Int32.ofNat (se (L 43 x) p)) M) : wp_Mo_stepEnd a M K := by
  subst ha
  have t0 : (Int32.ofNat p).toInt = (p : Int) := itn (by omega)
  have s1 : Int32.ofNat p + 1 = Int32.ofNat (p + 1) := i32_succ rfl
  have s2 : Int32.ofNat (p + 1) + 1 = Int32.ofNat (p + 2) := i32_succ rfl
  have s3 : Int32.ofNat (p + 2) + 1 = Int32.ofNat (p + 3) := i32_succ rfl
  have a2 : Int32.ofNat p + 2 = Int32.ofNat (p + 2) := (Int32.ofNat_add p 2).symm
  have a3 : Int32.ofNat p + 3 = Int32.ofNat (p + 3) := (Int32.ofNat_add p 3).symm
  have t1 : (Int32.ofNat (p + 1)).toInt = ((p + 1 : Nat) : Int) := itn (by omega)
  have t2 : (Int32.ofNat (p + 2)).toInt = ((p + 2 : Nat) : Int) := itn (by omega)
  have t3 : (Int32.ofNat (p + 3)).toInt = ((p + 3 : Nat) : Int) := itn (by omega)
  have t26 : ¬ (chv (L 43 x) p = 46 ∧ chv (L 43 x) (p + 1) = 46) → wp_Mo_stepEnd_26 K (Int32.ofNat p) M := by
    intro hn
    unfold se at hk
    rw [if_neg hn] at hk
    refine ⟨4, ?_⟩
    refine ⟨fun h9 => absurd h9 (by rw [a3, ile t3 t0]; omega), fun _ => mo_ch h hs hx t0 (by omega) (mo_letterC (fun z => ⟨fun h9 => absurd h9 (by decide), fun _ => ?_⟩) (fun z => ⟨fun _ => ?_, fun h9 => absurd rfl h9⟩))⟩
    · rw [if_pos z] at hk
      rw [s1]
      refine ⟨fun h9 => absurd h9 (by rw [a3, ile t3 t1]; omega), fun _ => mo_ch h hs hx t1 (by omega) (mo_letterC (fun z1 => ⟨fun h9 => absurd h9 (by decide), fun _ => ?_⟩) (fun z1 => ⟨fun _ => ?_, fun h9 => absurd rfl h9⟩))⟩
      · rw [if_pos z1] at hk
        rw [s2]
        refine ⟨fun h9 => absurd h9 (by rw [a3, ile t3 t2]; omega), fun _ => mo_ch h hs hx t2 (by omega) (mo_letterC (fun z2 => ⟨fun h9 => absurd h9 (by decide), fun _ => ?_⟩) (fun z2 => ⟨fun _ => ?_, fun h9 => absurd rfl h9⟩))⟩
        · rw [if_pos z2] at hk
          rw [s3]
          exact ⟨fun _ => hk, fun h9 => absurd (by rw [a3, ile t3 t3]; omega) h9⟩
        · rw [if_neg (by rw [z2]; decide)] at hk
          exact hk
      · rw [if_neg (by rw [z1]; decide)] at hk
        exact hk
    · rw [if_neg (by rw [z]; decide)] at hk
      exact hk
  refine mo_ch h hs hx t0 (by omega) ⟨fun z => t26 (fun q => z q.1), fun z => ?_⟩
  rw [s1]
  refine mo_ch h hs hx t1 (by omega) ⟨fun z1 => t26 (fun q => z1 q.2), fun z1 => ?_⟩
  rw [a2]
  unfold se at hk
  rw [if_pos ⟨z, z1⟩] at hk
  exact hk
/-- a name's number: k bytes from p, the last first -/
def nmv (l : List Int32) (p k : Nat) : Int32 := match k with
  | 0 => 0
  | 1 => ix l p
  | 2 => 128 * ix l (p + 1) + ix l p
  | _ => 128 * (128 * ix l (p + 2) + ix l (p + 1)) + ix l p
theorem se_ge (l : List Int32) (p : Nat) : p ≤ se l p ∧ se l p ≤ p + 3 := by
  unfold se
  split
  · omega
  · split
    · split
      · split <;> omega
      · omega
    · omega
theorem chv_ix {l : List Int32} {k : Nat} (h : k < l.length) : chv l k = ix l k := by unfold chv; rw [if_pos h]
theorem chv_none {l : List Int32} {k : Nat} (h : ¬ k < l.length) : chv l k = -1 := by unfold chv; rw [if_neg h]
theorem nmC_lt {l : List Int32} {k : Nat} (h : nmC (chv l k) = true) : k < l.length := by
  apply Nat.lt_of_not_le
  intro q
  rw [chv_none (by omega)] at h
  exact absurd h (by decide)
theorem i32_128 (a b : Int32) : a * 128 + b = 128 * a + b := by rw [Int32.mul_comm]
/-- the reference's name from p to p + k -/
theorem mo_nameAt {x p k : Nat} {a b : Int32} {M m : MzM} {L : MzV} {K : Int32 → MzM → Prop} (h : A2 M m L) (hs : (mz_i m (30, 0) 29).toInt = (x : Int)) (hx : x < 2) (ha : a = Int32.ofNat p) (hb : b = Int32.ofNat (p + k)) (hk0 : 1 ≤ k) (hk3 : k ≤ 3) (hl : p + k ≤ (L 43 x).length) (hk : K (nmv (L 43 x) p k) M) : wp_Mo_nameAt a b M K := by
  subst ha hb
  obtain ⟨e1, e2, e3⟩ := h.line hx
  have t0 : (Int32.ofNat p).toInt = (p : Int) := itn (by omega)
  have dn : ∀ (j : Nat), Int32.ofNat (j + 1) + (-1) = Int32.ofNat j ∨ 2147483646 < j := by
    intro j
    by_cases hj : 2147483646 < j
    · exact Or.inr hj
    · refine Or.inl (iofn ?_)
      rw [iadd (m := ((j + 1 : Nat) : Int)) (n := -1) (itn (by omega)) rfl (by omega) (by omega)]
      omega
  have st : ∀ (r j : Nat) (acc : Int32), p ≤ j → j < p + k → wp_Mo_nameAt_7 K r (Int32.ofNat p) (128 * acc + ix (L 43 x) j) (Int32.ofNat j + (-1)) M → wp_Mo_nameAt_7 K (r + 1) (Int32.ofNat p) acc (Int32.ofNat j) M := by
    intro r j acc h1 h2 hr
    have tj : (Int32.ofNat j).toInt = (j : Int) := itn (by omega)
    refine ⟨fun q => absurd ((ilt tj t0).mp q) (by omega), fun _ => mo_ch h hs hx tj (by omega) ?_⟩
    rw [chv_ix (by omega)]
    exact hr
  have en : ∀ (acc : Int32), K acc M → wp_Mo_nameAt_7 K 1 (Int32.ofNat p) acc (Int32.ofNat p + (-1)) M := by
    intro acc hK
    have tm : (Int32.ofNat p + (-1)).toInt = (p : Int) + (-1) := iadd t0 rfl (by omega) (by omega)
    exact ⟨fun _ => hK, fun q => absurd ((ilt tm t0).mpr (by omega)) q⟩
  have s1 : ∀ j : Nat, j < 1000 → Int32.ofNat (j + 1) + (-1) = Int32.ofNat j := fun j hj => (dn j).elim id (fun q => absurd q (by omega))
  have pr : Int32.ofNat (p + k) - 1 = Int32.ofNat (p + k - 1) := i32_pred (by rw [Nat.sub_add_cancel (by omega)]) (by omega)
  have hc : k = 1 ∨ k = 2 ∨ k = 3 := by omega
  have z0 : ∀ c : Int32, (128 : Int32) * 0 + c = c := fun c => by rw [Int32.mul_zero, Int32.zero_add]
  rcases hc with rfl | rfl | rfl
  · refine ⟨2, ?_⟩
    rw [pr]
    refine st 1 p 0 (by omega) (by omega) ?_
    rw [z0]
    exact en _ hk
  · refine ⟨3, ?_⟩
    rw [pr]
    refine st 2 (p + 1) 0 (by omega) (by omega) ?_
    rw [z0, s1 p (by omega)]
    exact st 1 p _ (by omega) (by omega) (en _ hk)
  · refine ⟨4, ?_⟩
    rw [pr]
    refine st 3 (p + 2) 0 (by omega) (by omega) ?_
    rw [z0, s1 (p + 1) (by omega)]
    refine st 2 (p + 1) _ (by omega) (by omega) ?_
    rw [s1 p (by omega)]
    exact st 1 p _ (by omega) (by omega) (en _ hk)
