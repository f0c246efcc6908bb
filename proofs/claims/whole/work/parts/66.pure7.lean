/-! PURE PART, numbers, and memories seen through lists: A1 M m L (the class's memory M: its plain places as in m, its rows as the lists L), A2 the same of the reference -/
theorem ile {a b : Int32} {m n : Int} (ha : a.toInt = m) (hb : b.toInt = n) : a ≤ b ↔ m ≤ n := by
  rw [Int32.le_iff_toInt_le, ha, hb]
theorem ilt {a b : Int32} {m n : Int} (ha : a.toInt = m) (hb : b.toInt = n) : a < b ↔ m < n := by
  rw [Int32.lt_iff_toInt_lt, ha, hb]
theorem ieq {a b : Int32} {m n : Int} (ha : a.toInt = m) (hb : b.toInt = n) : a = b ↔ m = n := by
  rw [← Int32.toInt_inj, ha, hb]
theorem iadd {a b : Int32} {m n : Int} (ha : a.toInt = m) (hb : b.toInt = n) (h1 : -2147483648 ≤ m + n) (h2 : m + n < 2147483648) : (a + b).toInt = m + n := by
  rw [Int32.toInt_add, ha, hb]
  simp only [Int.bmod]
  omega
theorem isub {a b : Int32} {m n : Int} (ha : a.toInt = m) (hb : b.toInt = n) (h1 : -2147483648 ≤ m - n) (h2 : m - n < 2147483648) : (a - b).toInt = m - n := by
  rw [Int32.toInt_sub, ha, hb]
  simp only [Int.bmod]
  omega
theorem imul {a b : Int32} {m n : Int} (ha : a.toInt = m) (hb : b.toInt = n) (h1 : -2147483648 ≤ m * n) (h2 : m * n < 2147483648) : (a * b).toInt = m * n := by
  rw [Int32.toInt_mul, ha, hb]
  generalize m * n = p at *
  simp only [Int.bmod]
  omega
theorem idiv {a b : Int32} {m n : Nat} (ha : a.toInt = (m : Int)) (hb : b.toInt = (n : Int)) : (a / b).toInt = ((m / n : Nat) : Int) := by
  have h1 := Int32.toInt_lt a
  have h2 : m / n ≤ m := Nat.div_le_self m n
  rw [Int32.toInt_div, ha, hb, ← Int.ofNat_tdiv]
  generalize m / n = p at *
  simp only [Int.bmod]
  omega
theorem imod {a c : Int32} {m n : Nat} (ha : a.toInt = (m : Int)) (hc : c.toInt = (n : Int)) : (a - a / c * c).toInt = ((m % n : Nat) : Int) := by
  have h1 := Int32.toInt_lt a
  have hd := idiv ha hc
  have hle : m / n * n ≤ m := Nat.div_mul_le_self m n
  have hdm : m / n * n + m % n = m := Nat.div_add_mod' m n
  have hm : (a / c * c).toInt = ((m / n * n : Nat) : Int) := by
    have e : ((m / n * n : Nat) : Int) = ((m / n : Nat) : Int) * (n : Int) := rfl
    rw [e]
    refine imul hd hc ?_ ?_
    · rw [← e]
      omega
    · rw [← e]
      omega
  have hs := isub ha hm (by omega) (by omega)
  rw [hs]
  generalize m / n * n = p at *
  generalize m % n = r at *
  omega
theorem itn {n : Nat} (h : n < 2147483648) : (Int32.ofNat n).toInt = (n : Int) := Int32.toInt_ofNat_of_lt (by omega)
theorem iofn {a : Int32} {n : Nat} (h : a.toInt = (n : Int)) : a = Int32.ofNat n := by
  have h1 := Int32.toInt_lt a
  refine Int32.toInt_inj.mp ?_
  rw [h, itn (by omega)]
theorem i32_succ {v : Int32} {n : Nat} (h : v = Int32.ofNat n) : v + 1 = Int32.ofNat (n + 1) := by
  rw [h]
  exact (Int32.ofNat_add n 1).symm
theorem i32_pred {v : Int32} {n : Nat} (h : v = Int32.ofNat (n + 1)) (hn : n < 2147483647) : v - 1 = Int32.ofNat n := by
  refine iofn ?_
  have e : v.toInt = ((n + 1 : Nat) : Int) := by rw [h, itn (by omega)]
  have e1 := isub (b := 1) (n := 1) e rfl (by omega) (by omega)
  rw [e1]
  omega
theorem str_ne {c i i' p q : Nat} (hp : p < c) (hq : q < c) (hi : i ≠ i') : c * i + p ≠ c * i' + q := by
  intro h
  apply hi
  have e1 : (c * i + p) / c = i := by rw [Nat.mul_add_div (by omega), Nat.div_eq_of_lt hp, Nat.add_zero]
  have e2 : (c * i' + q) / c = i' := by rw [Nat.mul_add_div (by omega), Nat.div_eq_of_lt hq, Nat.add_zero]
  rw [← e1, h, e2]
theorem mz_ne_k {M : MzM} {o p : MzL} {k q : Nat} {v : Int32} (h : q ≠ k) : mz_i (mz_si M o k v) p q = mz_i M p q := by
  rw [mz_i_si, if_neg (fun z => h z.2)]
theorem pne {a b x y : Nat} (h : a ≠ b) : ¬ (a, x) = (b, y) := fun z => h (congrArg Prod.fst z)
theorem lt_ble {a b : Nat} (h : Nat.ble (a + 1) b = true) : a < b := Nat.le_of_ble_eq_true h
abbrev MzV : Type := Nat → Nat → List Int32
def lu (L : MzV) (t i : Nat) (l : List Int32) : MzV := fun a b => if a = t ∧ b = i then l else L a b
theorem lu_same (L : MzV) (t i : Nat) (l : List Int32) : lu L t i l t i = l := by simp [lu]
theorem lu_ne (L : MzV) {t i a b : Nat} (l : List Int32) (h : ¬ (a = t ∧ b = i)) : lu L t i l a b = L a b := by simp only [lu]; rw [if_neg h]
theorem lu_lu (L : MzV) (t i : Nat) (l l' : List Int32) : lu (lu L t i l) t i l' = lu L t i l' := by
  funext a b
  simp only [lu]
  split <;> rfl
theorem lu_id (L : MzV) (t i : Nat) : lu L t i (L t i) = L := by
  funext a b
  simp only [lu]
  split
  · rename_i h
    rw [h.1, h.2]
  · rfl
/-- which places of the class's memory are plain -/
def vis1 (t k : Nat) : Bool := !([4, 5, 9, 10, 11, 13, 15, 17, 18, 20, 21].contains t) && !((t == 12 && k == 2) || (t == 14 && k == 1) || (t == 16 && k == 7))
/-- a row's tag: its length's tag and place, its room -/
def tb1 (t : Nat) : Option (Nat × Nat × Nat) := match t with
  | 5 => some (4, 1, 24)
  | 11 => some (9, 4, 66)
  | 13 => some (12, 2, 30)
  | 15 => some (14, 1, 30)
  | 17 => some (16, 7, 75)
  | 21 => some (20, 1, 24)
  | _ => none
theorem tb1_cases {t a b c : Nat} (h : tb1 t = some (a, b, c)) : (t = 5 ∧ a = 4 ∧ b = 1 ∧ c = 24) ∨ (t = 11 ∧ a = 9 ∧ b = 4 ∧ c = 66) ∨ (t = 13 ∧ a = 12 ∧ b = 2 ∧ c = 30) ∨ (t = 15 ∧ a = 14 ∧ b = 1 ∧ c = 30) ∨ (t = 17 ∧ a = 16 ∧ b = 7 ∧ c = 75) ∨ (t = 21 ∧ a = 20 ∧ b = 1 ∧ c = 24) := by
  unfold tb1 at h
  split at h
  all_goals first
    | (simp only [Option.some.injEq, Prod.mk.injEq] at h; omega)
    | exact absurd h (by simp)
theorem tb1_vis {t a b c : Nat} (h : tb1 t = some (a, b, c)) : vis1 a b = false ∧ ∀ k, vis1 t k = false := by
  rcases tb1_cases h with ⟨rfl, rfl, rfl, rfl⟩ | ⟨rfl, rfl, rfl, rfl⟩ | ⟨rfl, rfl, rfl, rfl⟩ | ⟨rfl, rfl, rfl, rfl⟩ | ⟨rfl, rfl, rfl, rfl⟩ | ⟨rfl, rfl, rfl, rfl⟩ <;> exact ⟨rfl, fun _ => rfl⟩
theorem tb1_cell {t a b c t' a' b' c' : Nat} (h : tb1 t = some (a, b, c)) (h' : tb1 t' = some (a', b', c')) : t ≠ a' := by
  have q1 := tb1_cases h
  have q2 := tb1_cases h'
  omega
theorem tb1_inj {t a b c t' a' b' c' : Nat} (h : tb1 t = some (a, b, c)) (h' : tb1 t' = some (a', b', c')) (e : a' = a) : t' = t := by
  have q1 := tb1_cases h
  have q2 := tb1_cases h'
  omega
theorem tb1_q {t a b c : Nat} (h : tb1 t = some (a, b, c)) : t ≠ 9 ∧ t ≠ 10 ∧ a ≠ 10 ∧ (a = 9 → b = 4) := by
  have q1 := tb1_cases h
  omega
def A1 (M m : MzM) (L : MzV) : Prop :=
  (∀ (p : MzL) (k : Nat), vis1 p.1 k = true → mz_i M p k = mz_i m p k) ∧ (∀ (p : MzL) (k : Nat), mz_r M p k = mz_r m p k) ∧
  (∀ t a b c i : Nat, tb1 t = some (a, b, c) → mz_i M (a, i) b = Int32.ofNat (L t i).length ∧ (L t i).length ≤ c ∧ ∀ j : Nat, j < (L t i).length → (L t i)[j]? = some (mz_i M (t, i) j)) ∧
  (∀ x : Nat, ∃ f : Nat, f < 200 ∧ mz_i M (9, x) 1 = Int32.ofNat f ∧ mz_i M (9, x) 2 = Int32.ofNat (L 9 x).length ∧ (L 9 x).length ≤ 200 ∧ ∀ j : Nat, j < (L 9 x).length → (L 9 x)[j]? = some (mz_i M (10, x) ((f + j) % 200)))
theorem A1.si {M m : MzM} {L : MzV} (h : A1 M m L) {o : MzL} {k : Nat} {v : Int32} (hv : vis1 o.1 k = true) : A1 (mz_si M o k v) (mz_si m o k v) L := by
  obtain ⟨h1, h2, h3, h4⟩ := h
  have ne : ∀ (p : MzL) (q : Nat), vis1 p.1 q = false → mz_i (mz_si M o k v) p q = mz_i M p q := by
    intro p q hf
    rw [mz_i_si, if_neg]
    rintro ⟨rfl, rfl⟩
    exact absurd (hv.symm.trans hf) (by decide)
  refine ⟨fun p q hpq => ?_, fun p q => h2 p q, fun t a b c i ht => ?_, fun x => ?_⟩
  · rw [mz_i_si, mz_i_si, h1 p q hpq]
  · obtain ⟨e1, e2, e3⟩ := h3 t a b c i ht
    obtain ⟨g1, g2⟩ := tb1_vis ht
    exact ⟨(ne (a, i) b g1).trans e1, e2, fun j hj => (e3 j hj).trans (congrArg some (ne (t, i) j (g2 j)).symm)⟩
  · obtain ⟨f, hf, e1, e2, e3, e4⟩ := h4 x
    exact ⟨f, hf, (ne (9, x) 1 rfl).trans e1, (ne (9, x) 2 rfl).trans e2, e3, fun j hj => (e4 j hj).trans (congrArg some (ne (10, x) _ rfl).symm)⟩
theorem A1.sr {M m : MzM} {L : MzV} (h : A1 M m L) {o : MzL} {k : Nat} {v : Option MzL} : A1 (mz_sr M o k v) (mz_sr m o k v) L :=
  ⟨fun p q hpq => h.1 p q hpq, fun p q => by rw [mz_r_sr, mz_r_sr, h.2.1 p q], h.2.2.1, h.2.2.2⟩
theorem A1.over {M m : MzM} {L : MzV} {o : MzL} {k : Nat} {u v : Int32} (h : A1 M (mz_si (mz_si m o k u) o k v) L) : A1 M (mz_si m o k v) L := by
  refine ⟨fun p q hpq => ?_, h.2⟩
  rw [h.1 p q hpq, mz_i_si, mz_i_si, mz_i_si]
  by_cases z : p = o ∧ q = k
  · rw [if_pos z, if_pos z]
  · rw [if_neg z, if_neg z, if_neg z]
/-- a length is set -/
theorem A1.cutl {M m : MzM} {L : MzV} (h : A1 M m L) {t a b c i n : Nat} (ht : tb1 t = some (a, b, c)) {w : Int32} (hn : n ≤ (L t i).length) (hw : w = Int32.ofNat n) : A1 (mz_si M (a, i) b w) m (lu L t i ((L t i).take n)) := by
  obtain ⟨h1, h2, h3, h4⟩ := h
  obtain ⟨g1, g2⟩ := tb1_vis ht
  have hq := tb1_q ht
  have ne : ∀ (p : MzL) (q : Nat), ¬ (p = (a, i) ∧ q = b) → mz_i (mz_si M (a, i) b w) p q = mz_i M p q := by
    intro p q n2
    rw [mz_i_si, if_neg n2]
  refine ⟨fun p q hpq => ?_, fun p q => h2 p q, fun t' a' b' c' i' ht' => ?_, fun x => ?_⟩
  · rw [ne p q, h1 p q hpq]
    rintro ⟨rfl, rfl⟩
    exact absurd (hpq.symm.trans g1) (by decide)
  · obtain ⟨e1, e2, e3⟩ := h3 t' a' b' c' i' ht'
    by_cases hti : t' = t ∧ i' = i
    · obtain ⟨rfl, rfl⟩ := hti
      have hs : some (a', b', c') = some (a, b, c) := ht'.symm.trans ht
      simp only [Option.some.injEq, Prod.mk.injEq] at hs
      obtain ⟨rfl, rfl, rfl⟩ := hs
      have hlen : ((L t' i').take n).length = n := by rw [List.length_take]; omega
      rw [lu_same, hlen]
      refine ⟨?_, by omega, fun j hj => ?_⟩
      · rw [mz_i_si, if_pos ⟨rfl, rfl⟩, hw]
      · rw [List.getElem?_take_of_lt hj, ne _ _ (fun z => tb1_cell ht ht' (congrArg Prod.fst z.1))]
        exact e3 j (by omega)
    · rw [lu_ne L _ hti]
      have n2 : ¬ ((a', i') = (a, i) ∧ b' = b) := fun z => hti ⟨tb1_inj ht ht' (congrArg Prod.fst z.1), congrArg Prod.snd z.1⟩
      exact ⟨(ne _ _ n2).trans e1, e2, fun j hj => (e3 j hj).trans (congrArg some (ne _ _ (fun z => tb1_cell ht' ht (congrArg Prod.fst z.1))).symm)⟩
  · obtain ⟨f, hf, e1, e2, e3, e4⟩ := h4 x
    have el : lu L t i ((L t i).take n) 9 x = L 9 x := lu_ne L _ (fun z => hq.1 z.1.symm)
    rw [el]
    have k1 : ¬ ((9, x) = (a, i) ∧ 1 = b) := by
      rintro ⟨z1, z2⟩
      have z3 : 9 = a := congrArg Prod.fst z1
      have z4 := hq.2.2.2 z3.symm
      omega
    have k2 : ¬ ((9, x) = (a, i) ∧ 2 = b) := by
      rintro ⟨z1, z2⟩
      have z3 : 9 = a := congrArg Prod.fst z1
      have z4 := hq.2.2.2 z3.symm
      omega
    exact ⟨f, hf, (ne _ _ k1).trans e1, (ne _ _ k2).trans e2, e3, fun j hj => (e4 j hj).trans (congrArg some (ne _ _ (fun z => hq.2.2.1 (congrArg Prod.fst z.1).symm)).symm)⟩
theorem A1.clr {M m : MzM} {L : MzV} (h : A1 M m L) {t a b c i : Nat} (ht : tb1 t = some (a, b, c)) : A1 (mz_si M (a, i) b 0) m (lu L t i []) := by
  have h1 := A1.cutl (i := i) (n := 0) (w := 0) h ht (Nat.zero_le _) rfl
  rw [List.take_zero] at h1
  exact h1
/-- a row grows by one at its end -/
theorem A1.push {M m : MzM} {L : MzV} (h : A1 M m L) {t a b c i : Nat} (ht : tb1 t = some (a, b, c)) {v w : Int32} (hl : (L t i).length < c) (hw : w = Int32.ofNat ((L t i).length + 1)) : A1 (mz_si (mz_si M (t, i) (L t i).length v) (a, i) b w) m (lu L t i (L t i ++ [v])) := by
  obtain ⟨h1, h2, h3, h4⟩ := h
  obtain ⟨g1, g2⟩ := tb1_vis ht
  have hq := tb1_q ht
  have ne : ∀ (p : MzL) (q : Nat), p ≠ (t, i) → ¬ (p = (a, i) ∧ q = b) → mz_i (mz_si (mz_si M (t, i) (L t i).length v) (a, i) b w) p q = mz_i M p q := by
    intro p q n1 n2
    rw [mz_i_si, if_neg n2, mz_i_si, if_neg (fun z => n1 z.1)]
  refine ⟨fun p q hpq => ?_, fun p q => h2 p q, fun t' a' b' c' i' ht' => ?_, fun x => ?_⟩
  · rw [ne p q, h1 p q hpq]
    · rintro rfl
      exact absurd (hpq.symm.trans (g2 q)) (by decide)
    · rintro ⟨rfl, rfl⟩
      exact absurd (hpq.symm.trans g1) (by decide)
  · obtain ⟨e1, e2, e3⟩ := h3 t' a' b' c' i' ht'
    by_cases hti : t' = t ∧ i' = i
    · obtain ⟨rfl, rfl⟩ := hti
      have hs : some (a', b', c') = some (a, b, c) := ht'.symm.trans ht
      simp only [Option.some.injEq, Prod.mk.injEq] at hs
      obtain ⟨rfl, rfl, rfl⟩ := hs
      have hta : t' ≠ a' := tb1_cell ht ht'
      have hlen : (L t' i' ++ [v]).length = (L t' i').length + 1 := by simp
      rw [lu_same, hlen]
      refine ⟨?_, hl, fun j hj => ?_⟩
      · rw [mz_i_si, if_pos ⟨rfl, rfl⟩, hw]
      · rw [mz_i_si, if_neg (fun z => hta (congrArg Prod.fst z.1)), mz_i_si]
        by_cases hjl : j = (L t' i').length
        · rw [if_pos ⟨rfl, hjl⟩, hjl]
          exact List.getElem?_concat_length
        · rw [if_neg (fun z => hjl z.2), List.getElem?_append_left (by omega)]
          exact e3 j (by omega)
    · rw [lu_ne L _ hti]
      have n1 : (t', i') ≠ (t, i) := fun z => hti ⟨congrArg Prod.fst z, congrArg Prod.snd z⟩
      have n2 : ¬ ((a', i') = (a, i) ∧ b' = b) := fun z => hti ⟨tb1_inj ht ht' (congrArg Prod.fst z.1), congrArg Prod.snd z.1⟩
      have n3 : (a', i') ≠ (t, i) := fun z => tb1_cell ht ht' (congrArg Prod.fst z).symm
      exact ⟨(ne _ _ n3 n2).trans e1, e2, fun j hj => (e3 j hj).trans (congrArg some (ne _ _ n1 (fun z => tb1_cell ht' ht (congrArg Prod.fst z.1))).symm)⟩
  · obtain ⟨f, hf, e1, e2, e3, e4⟩ := h4 x
    have el : lu L t i (L t i ++ [v]) 9 x = L 9 x := lu_ne L _ (fun z => hq.1 z.1.symm)
    rw [el]
    have k0 : (9, x) ≠ (t, i) := fun z => hq.1 (congrArg Prod.fst z).symm
    have k1 : ¬ ((9, x) = (a, i) ∧ 1 = b) := by
      rintro ⟨z1, z2⟩
      have z3 : 9 = a := congrArg Prod.fst z1
      have z4 := hq.2.2.2 z3.symm
      omega
    have k2 : ¬ ((9, x) = (a, i) ∧ 2 = b) := by
      rintro ⟨z1, z2⟩
      have z3 : 9 = a := congrArg Prod.fst z1
      have z4 := hq.2.2.2 z3.symm
      omega
    exact ⟨f, hf, (ne _ _ k0 k1).trans e1, (ne _ _ k0 k2).trans e2, e3, fun j hj => (e4 j hj).trans (congrArg some (ne _ _ (fun z => hq.2.1 (congrArg Prod.fst z).symm) (fun z => hq.2.2.1 (congrArg Prod.fst z.1).symm)).symm)⟩
/-- the replies grow by one -/
theorem A1.qpush {M m : MzM} {L : MzV} (h : A1 M m L) {x : Nat} (hl : (L 9 x).length < 200) : ∃ f : Nat, f < 200 ∧ mz_i M (9, x) 1 = Int32.ofNat f ∧ mz_i M (9, x) 2 = Int32.ofNat (L 9 x).length ∧ ∀ v w : Int32, w = Int32.ofNat ((L 9 x).length + 1) → A1 (mz_si (mz_si M (10, x) ((f + (L 9 x).length) % 200) v) (9, x) 2 w) m (lu L 9 x (L 9 x ++ [v])) := by
  obtain ⟨h1, h2, h3, h4⟩ := h
  obtain ⟨f, hf, e1, e2, e3, e4⟩ := h4 x
  refine ⟨f, hf, e1, e2, fun v w hw => ?_⟩
  have ne : ∀ (p : MzL) (q : Nat), p ≠ (10, x) → ¬ (p = (9, x) ∧ q = 2) → mz_i (mz_si (mz_si M (10, x) ((f + (L 9 x).length) % 200) v) (9, x) 2 w) p q = mz_i M p q := by
    intro p q n1 n2
    rw [mz_i_si, if_neg n2, mz_i_si, if_neg (fun z => n1 z.1)]
  refine ⟨fun p q hpq => ?_, fun p q => h2 p q, fun t' a' b' c' i' ht' => ?_, fun y => ?_⟩
  · rw [ne p q, h1 p q hpq]
    · rintro rfl
      exact absurd (hpq.symm.trans (show vis1 10 q = false from rfl)) (by decide)
    · rintro ⟨rfl, rfl⟩
      exact absurd (hpq.symm.trans (show vis1 9 2 = false from rfl)) (by decide)
  · obtain ⟨e1', e2', e3'⟩ := h3 t' a' b' c' i' ht'
    have hq := tb1_q ht'
    rw [lu_ne L _ (fun z => hq.1 z.1)]
    have n2 : ¬ ((a', i') = (9, x) ∧ b' = 2) := by
      rintro ⟨z1, z2⟩
      have z3 : a' = 9 := congrArg Prod.fst z1
      have z4 := hq.2.2.2 z3
      omega
    exact ⟨(ne _ _ (fun z => hq.2.2.1 (congrArg Prod.fst z)) n2).trans e1', e2', fun j hj => (e3' j hj).trans (congrArg some (ne _ _ (fun z => hq.2.1 (congrArg Prod.fst z)) (fun z => hq.1 (congrArg Prod.fst z.1))).symm)⟩
  · by_cases hy : y = x
    · subst hy
      have hlen : (L 9 y ++ [v]).length = (L 9 y).length + 1 := by simp
      rw [lu_same, hlen]
      refine ⟨f, hf, ?_, ?_, by omega, fun j hj => ?_⟩
      · rw [ne _ _ (fun z => pne (by decide) z) (fun z => absurd z.2 (by decide))]
        exact e1
      · rw [mz_i_si, if_pos ⟨rfl, rfl⟩, hw]
      · rw [mz_i_si, if_neg (fun z => pne (by decide) z.1), mz_i_si]
        by_cases hjl : j = (L 9 y).length
        · rw [if_pos ⟨rfl, by rw [hjl]⟩, hjl]
          exact List.getElem?_concat_length
        · rw [if_neg (fun z => hjl (by have := z.2; omega)), List.getElem?_append_left (by omega)]
          exact e4 j (by omega)
    · obtain ⟨f', hf', d1, d2, d3, d4⟩ := h4 y
      rw [lu_ne L _ (fun z => hy z.2)]
      have n1 : (9, y) ≠ (9, x) := fun z => hy (congrArg Prod.snd z)
      have n2 : (10, y) ≠ (10, x) := fun z => hy (congrArg Prod.snd z)
      exact ⟨f', hf', (ne _ _ (fun z => pne (by decide) z) (fun z => n1 z.1)).trans d1, (ne _ _ (fun z => pne (by decide) z) (fun z => n1 z.1)).trans d2, d3, fun j hj => (d4 j hj).trans (congrArg some (ne _ _ n2 (fun z => pne (by decide) z.1)).symm)⟩
/-- what the first of the replies is, and the replies without it; and no replies -/
theorem A1.qset {M m : MzM} {L : MzV} (h : A1 M m L) {x g n : Nat} {q : List Int32} {u w : Int32} (hg : g < 200) (hu : u = Int32.ofNat g) (hn : q.length = n) (hw : w = Int32.ofNat n) (hn2 : n ≤ 200) (hc : ∀ j : Nat, j < n → q[j]? = some (mz_i M (10, x) ((g + j) % 200))) : A1 (mz_si (mz_si M (9, x) 1 u) (9, x) 2 w) m (lu L 9 x q) := by
  obtain ⟨h1, h2, h3, h4⟩ := h
  have ne : ∀ (p : MzL) (r : Nat), ¬ (p = (9, x) ∧ (r = 1 ∨ r = 2)) → mz_i (mz_si (mz_si M (9, x) 1 u) (9, x) 2 w) p r = mz_i M p r := by
    intro p r n2
    rw [mz_i_si, if_neg (fun z => n2 ⟨z.1, Or.inr z.2⟩), mz_i_si, if_neg (fun z => n2 ⟨z.1, Or.inl z.2⟩)]
  refine ⟨fun p r hpq => ?_, fun p r => h2 p r, fun t' a' b' c' i' ht' => ?_, fun y => ?_⟩
  · rw [ne p r, h1 p r hpq]
    rintro ⟨rfl, z⟩
    rcases z with rfl | rfl
    · exact absurd (hpq.symm.trans (show vis1 9 1 = false from rfl)) (by decide)
    · exact absurd (hpq.symm.trans (show vis1 9 2 = false from rfl)) (by decide)
  · obtain ⟨e1', e2', e3'⟩ := h3 t' a' b' c' i' ht'
    have hq := tb1_q ht'
    rw [lu_ne L _ (fun z => hq.1 z.1)]
    have n2 : ¬ ((a', i') = (9, x) ∧ (b' = 1 ∨ b' = 2)) := by
      rintro ⟨z1, z2⟩
      have z3 : a' = 9 := congrArg Prod.fst z1
      have z4 := hq.2.2.2 z3
      omega
    exact ⟨(ne _ _ n2).trans e1', e2', fun j hj => (e3' j hj).trans (congrArg some (ne _ _ (fun z => hq.1 (congrArg Prod.fst z.1))).symm)⟩
  · by_cases hy : y = x
    · subst hy
      rw [lu_same, hn]
      refine ⟨g, hg, ?_, ?_, hn2, fun j hj => ?_⟩
      · rw [mz_i_si, if_neg (fun z => absurd z.2 (by decide)), mz_i_si, if_pos ⟨rfl, rfl⟩, hu]
      · rw [mz_i_si, if_pos ⟨rfl, rfl⟩, hw]
      · rw [ne _ _ (fun z => pne (by decide) z.1)]
        exact hc j hj
    · obtain ⟨f', hf', d1, d2, d3, d4⟩ := h4 y
      rw [lu_ne L _ (fun z => hy z.2)]
      have n1 : (9, y) ≠ (9, x) := fun z => hy (congrArg Prod.snd z)
      exact ⟨f', hf', (ne _ _ (fun z => n1 z.1)).trans d1, (ne _ _ (fun z => n1 z.1)).trans d2, d3, fun j hj => (d4 j hj).trans (congrArg some (ne _ _ (fun z => pne (by decide) z.1)).symm)⟩
