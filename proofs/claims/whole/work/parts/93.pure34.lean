def drB (m2 : MzM) (a : Int32) : Bool := decide (0 ≤ a.toInt ∧ a.toInt < 16 ∧ mz_i m2 (32, 0) a.toInt.toNat = 1 ∧ mz_i m2 (33, 0) a.toInt.toNat = 0)
theorem drB_iff {m2 : MzM} {a : Int32} : drB m2 a = true ↔ ∃ n : Nat, dirE m2 n ∧ a = Int32.ofNat n := by
  unfold drB dirE
  rw [decide_eq_true_iff]
  constructor
  · rintro ⟨h1, h2, h3, h4⟩
    exact ⟨a.toInt.toNat, ⟨by omega, h3, h4⟩, iofn (by omega)⟩
  · rintro ⟨n, ⟨h1, h2, h3⟩, rfl⟩
    have t : (Int32.ofNat n).toInt = (n : Int) := itn (by omega)
    rw [t]
    exact ⟨by omega, by omega, h2, h3⟩
theorem drB_neg (m2 : MzM) : drB m2 (-1) = false := by
  unfold drB
  rw [decide_eq_false_iff_not]
  rintro ⟨h, _⟩
  exact absurd h (by decide)
theorem pl_isDirectory {a : Int32} {M m1 m2 : MzM} {L L1 L2 : MzV} {K : Int32 → MzM → Prop} (h : A1 M m1 L) (hN : ∀ n : Nat, n < 16 → nodeE m1 L1 m2 L2 n) (h1 : drB m2 a = true → K 1 M) (h0 : drB m2 a = false → K 0 M) : wp_Store_isDirectory a M K := by
  have hf : ¬ (∃ n : Nat, dirE m2 n ∧ a = Int32.ofNat n) → K 0 M := fun q => h0 (by rw [Bool.eq_false_iff]; exact fun z => q (drB_iff.mp z))
  have ta : a.toInt = a.toInt := rfl
  refine ⟨fun q => hf ?_, fun q => ⟨fun q2 => hf ?_, fun q2 => ?_⟩⟩
  · rintro ⟨n, hn, rfl⟩
    have q1 := (ilt (n := 0) (itn (n := n) (by have := hn.1; omega)) rfl).mp q
    omega
  · rintro ⟨n, hn, rfl⟩
    have q1 := (ile (m := 16) rfl (itn (n := n) (by have := hn.1; omega))).mp q2
    have := hn.1
    omega
  · have g1 : ¬ a.toInt < 0 := fun z => q ((ilt (n := 0) ta rfl).mpr z)
    have g2 : ¬ 16 ≤ a.toInt := fun z => q2 ((ile (m := 16) rfl ta).mpr z)
    have e : a.toInt = ((a.toInt.toNat : Nat) : Int) := by omega
    have hn : a.toInt.toNat < 16 := by omega
    refine ⟨a.toInt.toNat, e, hn, ?_⟩
    have nn := hN _ hn
    rw [h.1 (3, a.toInt.toNat) 1 rfl, kd1 nn]
    refine ⟨fun z => hf ?_, fun z => h1 (drB_iff.mpr ⟨_, ⟨hn, z.1, z.2⟩, iofn e⟩)⟩
    rintro ⟨n, hd, ea⟩
    have en : n = a.toInt.toNat := by
      have := hd.1
      have t : a.toInt = (n : Int) := by rw [ea]; exact itn (by omega)
      omega
    rw [← en] at z
    exact z ⟨hd.2.1, hd.2.2⟩
def upF (m2 : MzM) (a : Int32) : Int32 := if a = 0 then 0 else mz_i m2 (34, 0) a.toInt.toNat
def wlk (m2 : MzM) : Int32 → List Int32 → Int32
  | a, [] => a
  | a, s :: ss => if drB m2 a = true then wlk m2 (if s = 0 then upF m2 a else chd m2 a s) ss else -1
def plc (m2 : MzM) : Int32 → List Int32 → Int32
  | _, [] => -1
  | a, s :: ss => if drB m2 a = true then (if ss = [] then (if ¬ s = 0 ∧ chd m2 a s = -1 then a else -1) else plc m2 (if s = 0 then upF m2 a else chd m2 a s) ss) else -1
theorem plc_class (m2 : MzM) : ∀ (ss : List Int32) (a : Int32), ss ≠ [] → plc m2 a ss = if wlk m2 a ss = -1 ∧ ¬ ss.getLastD 0 = 0 ∧ drB m2 (wlk m2 a ss.dropLast) = true then wlk m2 a ss.dropLast else -1
  | [], _, h => absurd rfl h
  | [s], a, _ => by
    have e1 : wlk m2 a [s] = if drB m2 a = true then (if s = 0 then upF m2 a else chd m2 a s) else -1 := rfl
    have e2 : plc m2 a [s] = if drB m2 a = true then (if ¬ s = 0 ∧ chd m2 a s = -1 then a else -1) else -1 := rfl
    have e3 : wlk m2 a [s].dropLast = a := rfl
    have e4 : [s].getLastD 0 = s := rfl
    rw [e1, e2, e3, e4]
    by_cases hd : drB m2 a = true
    · rw [if_pos hd, if_pos hd]
      by_cases hs : s = 0
      · rw [if_neg (fun z => z.1 hs), if_neg (fun z => z.2.1 hs)]
      · rw [if_neg hs]
        by_cases hc : chd m2 a s = -1
        · rw [if_pos ⟨hs, hc⟩, if_pos ⟨hc, hs, hd⟩]
        · rw [if_neg (fun z => hc z.2), if_neg (fun z => hc z.1)]
    · rw [if_neg hd, if_neg hd, if_neg (fun z => hd z.2.2)]
  | s :: s' :: ss, a, _ => by
    have e1 : wlk m2 a (s :: s' :: ss) = if drB m2 a = true then wlk m2 (if s = 0 then upF m2 a else chd m2 a s) (s' :: ss) else -1 := rfl
    have e2 : plc m2 a (s :: s' :: ss) = if drB m2 a = true then (if s' :: ss = [] then (if ¬ s = 0 ∧ chd m2 a s = -1 then a else -1) else plc m2 (if s = 0 then upF m2 a else chd m2 a s) (s' :: ss)) else -1 := rfl
    have e3 : wlk m2 a (s :: s' :: ss).dropLast = if drB m2 a = true then wlk m2 (if s = 0 then upF m2 a else chd m2 a s) (s' :: ss).dropLast else -1 := rfl
    have e4 : (s :: s' :: ss).getLastD 0 = (s' :: ss).getLastD 0 := by simp [List.getLastD]
    rw [e1, e2, e3, e4]
    by_cases hd : drB m2 a = true
    · rw [if_pos hd, if_pos hd, if_pos hd, if_neg (by simp), plc_class m2 (s' :: ss) _ (by simp)]
    · rw [if_neg hd, if_neg hd, if_neg hd, if_neg]
      rintro ⟨_, _, z⟩
      rw [drB_neg] at z
      exact absurd z (by decide)
theorem pl_follow_loop {x k : Nat} {y3 : Int32} {M m1 m2 : MzM} {L L1 L2 : MzV} {K : Int32 → MzM → Prop} (h : A1 M m1 L) (hN : ∀ n : Nat, n < 16 → nodeE m1 L1 m2 L2 n) (hr : rootE m1 m2) (hy : y3.toInt = (k : Int)) (hk : k ≤ (L 15 x).length) : ∀ (rem : List Int32) (i : Nat) (a : Int32), i + rem.length = k → (∀ j : Nat, j < rem.length → rem[j]? = (L 15 x)[i + j]?) → K (wlk m2 a rem) M → wp_Store_follow_17 x K (rem.length + 1) y3 a (Int32.ofNat i) M := by
  obtain ⟨e1, e2, e3⟩ := h.2.2.1 15 14 1 30 x rfl
  have tc : (mz_i M (14, x) 1).toInt = ((L 15 x).length : Int) := by rw [e1]; exact itn (by omega)
  intro rem
  induction rem with
  | nil =>
    intro i a hi _ hK
    have hi' : i = k := by simpa using hi
    subst hi'
    exact ⟨fun _ => hK, fun q => absurd ((ile hy (itn (n := i) (by omega))).mpr (by omega)) q⟩
  | cons s ss ih =>
    intro i a hi hj hK
    simp only [List.length_cons] at hi
    have ti : (Int32.ofNat i).toInt = (i : Int) := itn (by omega)
    have si : Int32.ofNat i + 1 = Int32.ofNat (i + 1) := i32_succ rfl
    have hs : mz_i M (15, x) i = s := by
      have q1 := hj 0 (by simp)
      have q2 := e3 i (by omega)
      rw [Nat.add_zero, q2] at q1
      exact (Option.some.inj q1).symm
    have eK : wlk m2 a (s :: ss) = if drB m2 a = true then wlk m2 (if s = 0 then upF m2 a else chd m2 a s) ss else -1 := rfl
    rw [eK] at hK
    have nx : ∀ b : Int32, K (wlk m2 b ss) M → wp_Store_follow_79 x (wp_Store_follow_17 x K (ss.length + 1)) K y3 (Int32.ofNat i) b M := by
      intro b hb
      show wp_Store_follow_17 x K (ss.length + 1) y3 b (Int32.ofNat i + 1) M
      rw [si]
      refine ih (i + 1) b (by omega) (fun j hjl => ?_) hb
      have q := hj (j + 1) (by simp only [List.length_cons]; omega)
      rw [List.getElem?_cons_succ] at q
      rw [q]
      congr 1
      omega
    refine ⟨fun q => absurd ((ile hy ti).mp q) (by omega), fun _ => ⟨fun q => absurd ((ile tc ti).mp q) (by omega), fun _ => pl_isDirectory h hN (fun hd => ⟨fun _ => ⟨i, ti, by omega, ?_⟩, fun h9 => absurd h9 (by decide)⟩) (fun hd => ⟨fun h9 => absurd rfl h9, fun _ => ?_⟩)⟩⟩
    · rw [if_pos hd] at hK
      rw [hs]
      refine ⟨fun z => ⟨i, ti, by omega, ?_⟩, fun z => ?_⟩
      · rw [hs]
        rw [if_neg z] at hK
        exact pl_childNamed h hN (nx _ hK)
      · rw [if_pos z] at hK
        obtain ⟨n, hn, rfl⟩ := drB_iff.mp hd
        have tn : (Int32.ofNat n).toInt = (n : Int) := itn (by have := hn.1; omega)
        refine ⟨n, tn, hn.1, ?_⟩
        have ep : mz_i M (3, n) 2 = upF m2 (Int32.ofNat n) := by
          rw [h.1 (3, n) 2 rfl]
          unfold upF
          rw [tn, show ((n : Int).toNat) = n from rfl]
          by_cases hn0 : n = 0
          · subst hn0
            rw [if_pos (show Int32.ofNat 0 = 0 from rfl)]
            exact hr.2.2
          · rw [if_neg (show ¬ Int32.ofNat n = 0 from fun z => hn0 (ofN_inj (b := 0) (by have := hn.1; omega) (by decide) z))]
            exact ((hN n hn.1).2.2.2.1 hn.2.1 hn0).1
        rw [ep]
        exact nx _ hK
    · rw [if_neg (by rw [hd]; decide)] at hK
      exact hK
