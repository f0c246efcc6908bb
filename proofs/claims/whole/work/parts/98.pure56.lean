def rk (d : Nat → Nat) (v : Nat) : Nat → Nat
  | 0 => 0
  | s + 1 => rk d v s + (if d s < v then 1 else 0)
theorem rk_mono (d : Nat → Nat) {v w : Nat} (h : v ≤ w) : ∀ s : Nat, rk d v s ≤ rk d w s
  | 0 => Nat.le_refl _
  | s + 1 => by
    have ih := rk_mono d h s
    show rk d v s + (if d s < v then 1 else 0) ≤ rk d w s + (if d s < w then 1 else 0)
    split <;> split <;> omega
theorem rk_lt (d : Nat → Nat) {p w : Nat} (h : d p < w) : ∀ s : Nat, p < s → rk d (d p) s < rk d w s
  | 0, hp => absurd hp (by omega)
  | s + 1, hp => by
    show rk d (d p) s + (if d s < d p then 1 else 0) < rk d w s + (if d s < w then 1 else 0)
    by_cases hs : p = s
    · subst hs
      have ih := rk_mono d (Nat.le_of_lt h) p
      rw [if_neg (Nat.lt_irrefl _), if_pos h]
      omega
    · have ih := rk_lt d h s (by omega)
      split <;> split <;> omega
theorem rk_le (d : Nat → Nat) (v : Nat) : ∀ s : Nat, rk d v s ≤ s
  | 0 => Nat.le_refl _
  | s + 1 => by
    have ih := rk_le d v s
    show rk d v s + (if d s < v then 1 else 0) ≤ s + 1
    split <;> omega
theorem rk_own (d : Nat → Nat) {n : Nat} : ∀ s : Nat, n < s → rk d (d n) s < s
  | 0, h => absurd h (by omega)
  | s + 1, h => by
    show rk d (d n) s + (if d s < d n then 1 else 0) < s + 1
    by_cases hs : n = s
    · subst hs
      have ih := rk_le d (d n) n
      rw [if_neg (Nat.lt_irrefl _)]
      omega
    · have ih := rk_own d (n := n) s (by omega)
      split <;> omega
theorem tree_rk {m2 : MzM} (h : treeE m2) : ∃ d : Nat → Nat, (∀ n p : Nat, n < 16 → ¬ n = 0 → mz_i m2 (32, 0) n = 1 → mz_i m2 (34, 0) n = Int32.ofNat p → p < 16 → d p < d n) ∧ ∀ n : Nat, n < 16 → d n ≤ 15 := by
  obtain ⟨d, hd⟩ := h
  refine ⟨fun n => rk d (d n) 16, fun n p hn hn0 h1 h2 hp => rk_lt d (hd n p hn hn0 h1 h2 hp) 16 hp, fun n hn => ?_⟩
  have := rk_own d (n := n) 16 hn
  show rk d (d n) 16 ≤ 15
  omega
/-- does the node top stand at n or above it, f steps up -/
def belB (m2 : MzM) : Nat → Nat → Nat → Bool
  | 0, n, top => decide (n = top)
  | f + 1, n, top => if n = top then true else if n = 0 then false else belB m2 f (mz_i m2 (34, 0) n).toInt.toNat top
theorem nat_of {p : Nat} (h : p < 16) : (Int32.ofNat p).toInt.toNat = p := by
  rw [itn (by omega)]
  omega
theorem bel_fuel {m1 m2 : MzM} {L1 L2 : MzV} (hN : ∀ n : Nat, n < 16 → nodeE m1 L1 m2 L2 n) {d : Nat → Nat} (hd : ∀ n p : Nat, n < 16 → ¬ n = 0 → mz_i m2 (32, 0) n = 1 → mz_i m2 (34, 0) n = Int32.ofNat p → p < 16 → d p < d n) (top : Nat) : ∀ (g f n : Nat), n < 16 → mz_i m2 (32, 0) n = 1 → d n < f → belB m2 g n top = true → belB m2 f n top = true := by
  intro g
  induction g with
  | zero =>
    intro f n hn h1 hf h
    obtain ⟨f', rfl⟩ : ∃ f', f = f' + 1 := ⟨f - 1, by omega⟩
    show (if n = top then true else if n = 0 then false else belB m2 f' (mz_i m2 (34, 0) n).toInt.toNat top) = true
    rw [if_pos (of_decide_eq_true h)]
  | succ g ih =>
    intro f n hn h1 hf h
    obtain ⟨f', rfl⟩ : ∃ f', f = f' + 1 := ⟨f - 1, by omega⟩
    have h' : (if n = top then true else if n = 0 then false else belB m2 g (mz_i m2 (34, 0) n).toInt.toNat top) = true := h
    show (if n = top then true else if n = 0 then false else belB m2 f' (mz_i m2 (34, 0) n).toInt.toNat top) = true
    by_cases ht : n = top
    · rw [if_pos ht]
    · rw [if_neg ht] at h' ⊢
      by_cases h0 : n = 0
      · rw [if_pos h0] at h'
        exact absurd h' (by decide)
      · rw [if_neg h0] at h' ⊢
        obtain ⟨_, _, p, hp, ep⟩ := (hN n hn).2.2.2.1 h1 h0
        have := hd n p hn h0 h1 ep hp.1
        rw [ep, nat_of hp.1] at h' ⊢
        exact ih f' p hp.1 hp.2.1 (by omega) h'
/-- a node goes elsewhere -/
theorem ee_mv {m1 m2 : MzM} {L1 L2 : MzV} {n p : Nat} {nm : Int32} (hE : EE m1 L1 m2 L2) (hn : n < 16) (hn0 : ¬ n = 0) (hth : mz_i m2 (32, 0) n = 1) (hp : dirE m2 p) (hnm : nmE nm) (hb : belB m2 16 p n = false) : EE (mz_si (mz_si m1 (3, n) 2 (Int32.ofNat p)) (3, n) 3 nm) L1 (mz_si (mz_si m2 (34, 0) n (Int32.ofNat p)) (35, 0) n nm) L2 := by
  have k1 : ∀ i q : Nat, ¬ q = 2 → ¬ q = 3 → mz_i (mz_si (mz_si m1 (3, n) 2 (Int32.ofNat p)) (3, n) 3 nm) (3, i) q = mz_i m1 (3, i) q := fun i q h2 h3 => (mz_ne_k h3).trans (mz_ne_k h2)
  have hN := hE.2.2.1
  have e34 : ∀ i : Nat, ¬ i = n → mz_i (mz_si (mz_si m2 (34, 0) n (Int32.ofNat p)) (35, 0) n nm) (34, 0) i = mz_i m2 (34, 0) i := by
    intro i hi
    show mz_i (mz_si m2 (34, 0) n (Int32.ofNat p)) (34, 0) i = _
    rw [mz_i_si, if_neg (fun z => hi z.2)]
  have e34n : mz_i (mz_si (mz_si m2 (34, 0) n (Int32.ofNat p)) (35, 0) n nm) (34, 0) n = Int32.ofNat p := by
    show mz_i (mz_si m2 (34, 0) n (Int32.ofNat p)) (34, 0) n = _
    rw [mz_i_si, if_pos ⟨rfl, rfl⟩]
  refine ⟨hE.1, hE.2.1, fun i hi => ?_, ⟨fun i hi => ?_, hE.2.2.2.1.2⟩, ⟨hE.2.2.2.2.1.1, (e34 0 (fun z => hn0 z.symm)).trans hE.2.2.2.2.1.2.1, ?_⟩, ?_, hE.2.2.2.2.2.2.1, hE.2.2.2.2.2.2.2.1, hE.2.2.2.2.2.2.2.2⟩
  · obtain ⟨q1, q2, q3, q4, q5, q6⟩ := hN i hi
    by_cases hin : i = n
    · subst hin
      have c2 : mz_i (mz_si (mz_si m1 (3, i) 2 (Int32.ofNat p)) (3, i) 3 nm) (3, i) 2 = Int32.ofNat p := by
        rw [mz_ne_k (by decide), mz_i_si, if_pos ⟨rfl, rfl⟩]
      have c3 : mz_i (mz_si (mz_si m1 (3, i) 2 (Int32.ofNat p)) (3, i) 3 nm) (3, i) 3 = nm := by
        rw [mz_i_si, if_pos ⟨rfl, rfl⟩]
      have e35 : mz_i (mz_si (mz_si m2 (34, 0) i (Int32.ofNat p)) (35, 0) i nm) (35, 0) i = nm := by
        rw [mz_i_si, if_pos ⟨rfl, rfl⟩]
      refine ⟨q1, q2, (k1 i 1 (by decide) (by decide)).trans q3, fun _ _ => ⟨c2.trans e34n.symm, ?_, p, hp, e34n⟩, fun _ => c3.trans e35.symm, fun z => ?_⟩
      · rw [e35]
        exact hnm
      · rw [k1 i 6 (by decide) (by decide)]
        exact q6 z
    · have c : ∀ q : Nat, mz_i (mz_si (mz_si m1 (3, n) 2 (Int32.ofNat p)) (3, n) 3 nm) (3, i) q = mz_i m1 (3, i) q := by
        intro q
        rw [mz_i_si, if_neg (fun z => hin (congrArg Prod.snd z.1)), mz_i_si, if_neg (fun z => hin (congrArg Prod.snd z.1))]
      have e35 : mz_i (mz_si (mz_si m2 (34, 0) n (Int32.ofNat p)) (35, 0) n nm) (35, 0) i = mz_i m2 (35, 0) i := by
        rw [mz_i_si, if_neg (fun z => hin z.2)]
        rfl
      refine ⟨q1, q2, (c 1).trans q3, fun z z0 => ?_, fun z => (c 3).trans ((q5 z).trans e35.symm), fun z => ?_⟩
      · rw [c 2, e34 i hin, e35]
        exact q4 z z0
      · rw [c 6]
        exact q6 z
  · rw [k1 i 4 (by decide) (by decide), k1 i 5 (by decide) (by decide), k1 i 6 (by decide) (by decide)]
    exact hE.2.2.2.1.1 i hi
  · rw [mz_i_si, if_neg (fun z => hn0 (congrArg Prod.snd z.1).symm), mz_i_si, if_neg (fun z => hn0 (congrArg Prod.snd z.1).symm)]
    exact hE.2.2.2.2.1.2.2
  · obtain ⟨d, hd, hd15⟩ := tree_rk hE.2.2.2.2.2.1
    have hnb : ¬ ∃ f, belB m2 f p n = true := by
      rintro ⟨f, hf⟩
      have := bel_fuel hN hd n f 16 p hp.1 hp.2.1 (by have := hd15 p hp.1; omega) hf
      rw [hb] at this
      exact absurd this (by decide)
    have hst : ∀ k q : Nat, ¬ k = n → ¬ k = 0 → mz_i m2 (34, 0) k = Int32.ofNat q → q < 16 → ((∃ f, belB m2 f k n = true) ↔ ∃ f, belB m2 f q n = true) := by
      intro k q hk hk0 hq hq16
      constructor
      · rintro ⟨f, hf⟩
        cases f with
        | zero => exact absurd (of_decide_eq_true hf) hk
        | succ f =>
          have h' : (if k = n then true else if k = 0 then false else belB m2 f (mz_i m2 (34, 0) k).toInt.toNat n) = true := hf
          rw [if_neg hk, if_neg hk0, hq, nat_of hq16] at h'
          exact ⟨f, h'⟩
      · rintro ⟨f, hf⟩
        refine ⟨f + 1, ?_⟩
        show (if k = n then true else if k = 0 then false else belB m2 f (mz_i m2 (34, 0) k).toInt.toNat n) = true
        rw [if_neg hk, if_neg hk0, hq, nat_of hq16]
        exact hf
    have hnn : ∃ f, belB m2 f n n = true := ⟨0, decide_eq_true rfl⟩
    refine ⟨fun k => @ite Nat (∃ f, belB m2 f k n = true) (Classical.propDecidable _) (d k + d p + 1) (d k), fun k q hk hk0 h1 h2 hq => ?_⟩
    show @ite Nat (∃ f, belB m2 f q n = true) (Classical.propDecidable _) (d q + d p + 1) (d q) < @ite Nat (∃ f, belB m2 f k n = true) (Classical.propDecidable _) (d k + d p + 1) (d k)
    by_cases hkn : k = n
    · subst hkn
      rw [e34n] at h2
      have eq := ofN_inj (by have := hp.1; omega) (by omega) h2
      subst eq
      rw [if_neg hnb, if_pos hnn]
      omega
    · rw [e34 k hkn] at h2
      have hlt := hd k q hk hk0 h1 h2 hq
      have hiff := hst k q hkn hk0 h2 hq
      by_cases hB : ∃ f, belB m2 f q n = true
      · rw [if_pos hB, if_pos (hiff.mpr hB)]
        omega
      · rw [if_neg hB, if_neg (fun z => hB (hiff.mp z))]
        exact hlt
theorem pl_within {n p : Nat} {M m1 m2 : MzM} {L1 L2 : MzV} {K : Int32 → MzM → Prop} (hE : EE m1 L1 m2 L2) (f3 : ∀ n : Nat, mz_i M (3, n) 2 = mz_i m1 (3, n) 2) (hn : n < 16) (hn0 : ¬ n = 0) (hp : dirE m2 p) (h1 : belB m2 16 p n = true → K 1 M) (h0 : belB m2 16 p n = false → K 0 M) : wp_Store_isWithin (Int32.ofNat p) (Int32.ofNat n) M K := by
  obtain ⟨d, hd, hd15⟩ := tree_rk hE.2.2.2.2.2.1
  have hN := hE.2.2.1
  have key : ∀ (f i k : Nat), i + f = 16 → k < 16 → mz_i m2 (32, 0) k = 1 → d k < f → (belB m2 f k n = true → K 1 M) → (belB m2 f k n = false → K 0 M) → wp_Store_isWithin_5 K (f + 1) (Int32.ofNat n) (Int32.ofNat k) (Int32.ofNat i) M := by
    intro f
    induction f with
    | zero => intro i k hi hk hk1 hdk; omega
    | succ f ih =>
      intro i k hi hk hk1 hdk g1 g0
      have ti : (Int32.ofNat i).toInt = (i : Int) := itn (by omega)
      have tk : (Int32.ofNat k).toInt = (k : Int) := itn (by omega)
      have ev : ∀ b : Bool, (if k = n then true else if k = 0 then false else belB m2 f (mz_i m2 (34, 0) k).toInt.toNat n) = b → belB m2 (f + 1) k n = b := fun b z => z
      refine ⟨fun z => absurd ((ile (m := 16) rfl ti).mp z) (by omega), fun _ => ⟨fun z => g0 (ev _ ?_), fun z => ⟨fun z => absurd ((ile (m := 16) rfl tk).mp z) (by omega), fun _ => ⟨fun e => ⟨k, tk, hk, ?_⟩, fun e => g1 (ev _ ?_)⟩⟩⟩⟩
      · have k0 : k = 0 := by
          have := (ile (n := 0) tk rfl).mp z
          omega
        rw [if_neg (fun y => hn0 (y.symm.trans k0)), if_pos k0]
      · have k0 : ¬ k = 0 := fun y => z ((ile (n := 0) tk rfl).mpr (by omega))
        have kn : ¬ k = n := fun y => e (by rw [y])
        obtain ⟨w1, _, q, hq, eq⟩ := (hN k hk).2.2.2.1 hk1 k0
        have hlt := hd k q hk k0 hk1 eq hq.1
        have ev2 : ∀ b : Bool, belB m2 f q n = b → belB m2 (f + 1) k n = b := by
          intro b z
          refine ev b ?_
          rw [if_neg kn, if_neg k0, eq, nat_of hq.1]
          exact z
        rw [f3 k, w1, eq, i32_succ (n := i) rfl]
        exact ih (i + 1) q (by omega) hq.1 hq.2.1 (by omega) (fun z => g1 (ev2 _ z)) (fun z => g0 (ev2 _ z))
      · rw [if_pos (ofN_inj (by omega) (by omega) e)]
  exact ⟨17, key 16 0 p rfl hp.1 hp.2.1 (by have := hd15 p hp.1; omega) h1 h0⟩
theorem mo_below {n p : Nat} {M m1 m2 : MzM} {L1 L2 : MzV} {K : Int32 → MzM → Prop} (hE : EE m1 L1 m2 L2) (f34 : ∀ n : Nat, mz_i M (34, 0) n = mz_i m2 (34, 0) n) (hn : n < 16) (hn0 : ¬ n = 0) (hp : dirE m2 p) (h1 : belB m2 16 p n = true → K 1 M) (h0 : belB m2 16 p n = false → K 0 M) : wp_Mo_isBelow (Int32.ofNat p) (Int32.ofNat n) M K := by
  obtain ⟨d, hd, hd15⟩ := tree_rk hE.2.2.2.2.2.1
  have hN := hE.2.2.1
  have key : ∀ (f k : Nat), k < 16 → mz_i m2 (32, 0) k = 1 → d k < f → (belB m2 f k n = true → K 1 M) → (belB m2 f k n = false → K 0 M) → wp_Mo_isBelow_2 K (f + 1) (Int32.ofNat n) (Int32.ofNat k) M := by
    intro f
    induction f with
    | zero => intro k hk hk1 hdk; omega
    | succ f ih =>
      intro k hk hk1 hdk g1 g0
      have tk : (Int32.ofNat k).toInt = (k : Int) := itn (by omega)
      have ev : ∀ b : Bool, (if k = n then true else if k = 0 then false else belB m2 f (mz_i m2 (34, 0) k).toInt.toNat n) = b → belB m2 (f + 1) k n = b := fun b z => z
      refine ⟨fun z => absurd ((ilt (n := 0) tk rfl).mp z) (by omega), fun _ => ⟨fun e => ⟨fun z => absurd e z, fun _ => g1 (ev _ ?_)⟩, fun e => ⟨k, tk, hk, ?_⟩⟩⟩
      · rw [if_pos (ofN_inj (by omega) (by omega) e)]
      · have kn : ¬ k = n := fun y => e (by rw [y])
        rw [f34 k]
        by_cases k0 : k = 0
        · subst k0
          rw [hE.2.2.2.2.1.2.1]
          refine ⟨fun _ => ⟨fun _ => g0 (ev _ ?_), fun z => absurd z (nneg hn)⟩, fun z => absurd (by decide) z⟩
          rw [if_neg kn, if_pos rfl]
        · obtain ⟨w1, _, q, hq, eq⟩ := (hN k hk).2.2.2.1 hk1 k0
          have hlt := hd k q hk k0 hk1 eq hq.1
          have ev2 : ∀ b : Bool, belB m2 f q n = b → belB m2 (f + 1) k n = b := by
            intro b z
            refine ev b ?_
            rw [if_neg kn, if_neg k0, eq, nat_of hq.1]
            exact z
          rw [eq]
          exact ih q hq.1 hq.2.1 (by omega) (fun z => g1 (ev2 _ z)) (fun z => g0 (ev2 _ z))
  exact ⟨17, key 16 p hp.1 hp.2.1 (by have := hd15 p hp.1; omega) h1 h0⟩
/-- n may go to p, but for what moves -/
def rnOk (m2 : MzM) (pl rn : Int32) (n p : Nat) : Prop := ¬ n = 0 ∧ n < 16 ∧ rn = Int32.ofNat n ∧ mz_i m2 (32, 0) n = 1 ∧ dirE m2 p ∧ pl = Int32.ofNat p ∧ belB m2 16 p n = false
theorem rnOk_uniq {m2 : MzM} {pl rn : Int32} {n p n' p' : Nat} (h : rnOk m2 pl rn n p) (h' : rnOk m2 pl rn n' p') : n = n' ∧ p = p' := ⟨ofN_inj (by have := h.2.1; omega) (by have := h'.2.1; omega) (h.2.2.1.symm.trans h'.2.2.1), ofN_inj (by have := h.2.2.2.2.1.1; omega) (by have := h'.2.2.2.2.1.1; omega) (h.2.2.2.2.2.1.symm.trans h'.2.2.2.2.2.1)⟩
theorem pl_rnto {X : Nat} {pl rn : Int32} {M mo m1 m2 : MzM} {L L1 L2 : MzV} {K : Int32 → MzM → Prop} (h : A1 M mo L) (hE : EE m1 L1 m2 L2) (e10 : mz_i mo (8, X) 10 = rn) (e13 : mz_i mo (8, X) 13 = pl) (e3 : ∀ n k : Nat, mz_i mo (3, n) k = mz_i m1 (3, n) k) (hrn : rn = -1 ∨ ∃ n : Nat, 0 < n ∧ n < 16 ∧ rn = Int32.ofNat n) (hpl : pl = -1 ∨ ∃ n : Nat, dirE m2 n ∧ pl = Int32.ofNat n)
    (h503 : rn = -1 → K 503 M) (h550 : ¬ rn = -1 → (∀ n p : Nat, ¬ rnOk m2 pl rn n p) → K 550 M) (h450 : ∀ n p : Nat, rnOk m2 pl rn n p → mvd m2 n → K 450 M) (h250 : ∀ n p : Nat, rnOk m2 pl rn n p → ¬ mvd m2 n → K 250 (mz_si (mz_si M (3, n) 2 (Int32.ofNat p)) (3, n) 3 (lsI (L 15 X)))) : wp_Ses_rename X M K := by
  have hN := hE.2.2.1
  have f10 : mz_i M (8, X) 10 = rn := (h.1 _ _ rfl).trans e10
  have f13 : mz_i M (8, X) 13 = pl := (h.1 _ _ rfl).trans e13
  have f3 : ∀ n k : Nat, vis1 3 k = true → mz_i M (3, n) k = mz_i m1 (3, n) k := fun n k hv => (h.1 (3, n) k hv).trans (e3 n k)
  unfold wp_Ses_rename
  rw [f10]
  refine ⟨fun hr => ?_, fun hr => h503 hr⟩
  obtain ⟨n, hn0, hn, ern⟩ := hrn.resolve_left hr
  have tn : rn.toInt = (n : Int) := by rw [ern]; exact itn (by omega)
  have uq : ∀ n' p : Nat, rnOk m2 pl rn n' p → n' = n := fun n' p z => ofN_inj (by have := z.2.1; omega) (by omega) (z.2.2.1.symm.trans ern)
  refine ⟨fun z => absurd ((ilt (n := 0) tn rfl).mp z) (by omega), fun _ => ⟨fun z => absurd ((ile (m := 16) rfl tn).mp z) (by omega), fun _ => ⟨n, tn, hn, ?_, ?_⟩⟩⟩
  · intro z
    rw [f3 n 1 rfl, kd0 (hN n hn)] at z
    refine ⟨fun _ => h550 hr (fun n' p w => ?_), fun z => absurd rfl z⟩
    rw [uq n' p w] at w
    exact absurd (z.symm.trans w.2.2.2.1) (by decide)
  · intro z
    rw [f3 n 1 rfl, kd0 (hN n hn), z01 (hN n hn).1] at z
    refine ⟨fun z => absurd z (by decide), fun _ => ?_⟩
    rw [f13]
    refine ⟨fun y => h550 hr (fun n' p w => ?_), fun y => ?_⟩
    · have w1 := w.2.2.2.2.2.1
      rw [y] at w1
      exact nneg w.2.2.2.2.1.1 w1
    · obtain ⟨p, hp, ep⟩ := hpl.resolve_left y
      rw [f10, ern, ep]
      refine pl_within (m1 := m1) (L1 := L1) (L2 := L2) hE (fun i => f3 i 2 rfl) hn (by omega) hp (fun hb => ⟨fun z => absurd z (by decide), fun _ => h550 hr (fun n' p' w => ?_)⟩) (fun hb => ⟨fun _ => ⟨n, by rw [f10]; exact tn, hn, ?_⟩, fun z => absurd rfl z⟩)
      · have e1 := uq n' p' w
        have e2 : p' = p := ofN_inj (by have := w.2.2.2.2.1.1; omega) (by have := hp.1; omega) (w.2.2.2.2.2.1.symm.trans ep)
        rw [e1, e2] at w
        exact absurd (hb.symm.trans w.2.2.2.2.2.2) (by decide)
      · have ok : rnOk m2 pl rn n p := ⟨by omega, hn, ern, z, hp, ep, hb⟩
        refine pl_isBusy (m1 := m1) (m2 := m2) (L1 := L1) (L2 := L2) h (e3 n 4) (e3 n 5) hE hn (fun hm => ⟨fun z => absurd z (by decide), fun _ => h450 n p ok hm⟩) (fun hm => ⟨fun _ => ?_, fun z => absurd rfl z⟩)
        rintro _ rfl
        rw [f13, ep]
        refine pl_newName (h.si (o := (3, n)) (k := 2) (v := Int32.ofNat p) rfl) ?_
        rintro _ rfl
        exact h250 n p ok hm
theorem mo_rnto {pl rn : Int32} {M m m1 m2 : MzM} {L L1 L2 : MzV} {K : Int32 → MzM → Prop} (h : A2 M m L) (hE : EE m1 L1 m2 L2) (e34 : mz_i m (30, 0) 34 = pl) (f32 : mz_i m (32, 0) = mz_i m2 (32, 0)) (f33 : mz_i m (33, 0) = mz_i m2 (33, 0)) (f34 : mz_i m (34, 0) = mz_i m2 (34, 0)) (f53 : mz_i m (53, 0) = mz_i m2 (53, 0)) (f54 : mz_i m (54, 0) = mz_i m2 (54, 0)) (hrn : rn = -1 ∨ ∃ n : Nat, 0 < n ∧ n < 16 ∧ rn = Int32.ofNat n) (hpl : pl = -1 ∨ ∃ n : Nat, dirE m2 n ∧ pl = Int32.ofNat n)
    (h503 : rn = -1 → K 503 M) (h550 : ¬ rn = -1 → (∀ n p : Nat, ¬ rnOk m2 pl rn n p) → K 550 M) (h450 : ∀ n p : Nat, rnOk m2 pl rn n p → mvd m2 n → K 450 M) (h250 : ∀ n p : Nat, rnOk m2 pl rn n p → ¬ mvd m2 n → K 250 (mz_si (mz_si M (34, 0) n (Int32.ofNat p)) (35, 0) n (mz_i m (30, 0) 35))) : wp_Mo_renameTo rn M K := by
  have hN := hE.2.2.1
  have g34' : mz_i M (30, 0) 34 = pl := (h.1 30 34 rfl).trans e34
  have g35' : mz_i M (30, 0) 35 = mz_i m (30, 0) 35 := h.1 30 35 rfl
  have g32 : ∀ i : Nat, mz_i M (32, 0) i = mz_i m2 (32, 0) i := fun i => (h.1 32 i rfl).trans (by rw [f32])
  have g33 : ∀ i : Nat, mz_i M (33, 0) i = mz_i m2 (33, 0) i := fun i => (h.1 33 i rfl).trans (by rw [f33])
  have g34 : ∀ i : Nat, mz_i M (34, 0) i = mz_i m2 (34, 0) i := fun i => (h.1 34 i rfl).trans (by rw [f34])
  refine ⟨fun hr => ?_, fun hr => ?_⟩
  · have hr' : ¬ rn = -1 := fun z => by
      rw [z] at hr
      exact absurd hr (by decide)
    obtain ⟨n, hn0, hn, ern⟩ := hrn.resolve_left hr'
    have tn : rn.toInt = (n : Int) := by rw [ern]; exact itn (by omega)
    have uq : ∀ n' p : Nat, rnOk m2 pl rn n' p → n' = n := fun n' p z => ofN_inj (by have := z.2.1; omega) (by omega) (z.2.2.1.symm.trans ern)
    refine ⟨n, tn, hn, fun z => h550 hr' (fun n' p w => ?_), fun z => ?_⟩
    · rw [g32 n] at z
      rw [uq n' p w] at w
      exact absurd (z.symm.trans w.2.2.2.1) (by decide)
    · rw [g32 n, z01 (hN n hn).1] at z
      rw [g34']
      refine ⟨fun y => h550 hr' (fun n' p w => ?_), fun y => ?_⟩
      · have := (ilt (n := 0) (itn (n := p) (by have := w.2.2.2.2.1.1; omega)) rfl).mp (by rw [← w.2.2.2.2.2.1]; exact y)
        omega
      · have y' : ¬ pl = -1 := fun q => y (by rw [q]; decide)
        obtain ⟨p, hp, ep⟩ := hpl.resolve_left y'
        rw [ern, ep]
        refine mo_below (m1 := m1) (L1 := L1) (L2 := L2) hE g34 hn (by omega) hp (fun hb => ⟨fun z => absurd z (by decide), fun _ => h550 hr' (fun n' p' w => ?_)⟩) (fun hb => ⟨fun _ => ⟨n, itn (by omega), hn, ?_⟩, fun z => absurd rfl z⟩)
        · have e1 := uq n' p' w
          have e2 : p' = p := ofN_inj (by have := w.2.2.2.2.1.1; omega) (by have := hp.1; omega) (w.2.2.2.2.2.1.symm.trans ep)
          rw [e1, e2] at w
          exact absurd (hb.symm.trans w.2.2.2.2.2.2) (by decide)
        · have ok : rnOk m2 pl rn n p := ⟨by omega, hn, ern, z, hp, ep, hb⟩
          have fin : ¬ mvd m2 n → wp_Mo_renameTo_61 K (Int32.ofNat n) M := by
            intro hm
            refine ⟨n, itn (by omega), hn, ?_⟩
            rintro _ rfl
            refine ⟨n, itn (by omega), hn, ?_⟩
            rintro _ rfl
            have e35 : mz_i (mz_si M (34, 0) n (mz_i M (30, 0) 34)) (30, 0) 35 = mz_i m (30, 0) 35 := g35'
            rw [e35, g34', ep]
            exact h250 n p ok hm
          rw [g33 n]
          refine ⟨fun w => fin ?_, fun w => mo_moved (n := n) (m2 := m2) h f53 f54 rfl (fun hm => ⟨fun z => absurd z (by decide), fun _ => h450 n p ok hm⟩) (fun hm => ⟨fun _ => fin hm, fun z => absurd rfl z⟩)⟩
          rintro ⟨x, hx, _, q⟩
          exact dir_mv hE hx ⟨hn, z, w⟩ q
  · refine h503 ?_
    rcases hrn with q | ⟨n, hn0, hn, ern⟩
    · exact q
    · refine absurd ?_ hr
      rw [ern]
      exact (ile (m := 0) rfl (itn (n := n) (by omega))).mpr (by omega)
theorem ob_0_20 : obPred 0 20 := by
  intro m1 m2 M L1 L2 fr vd a ss K hE o0 ha hfit hW hD hA hfr hss h hk
  obtain ⟨s1, s2, s3, s4, s5, s6, s7, s8, s9, s10, s11, s12, s13, s14, s15, s16⟩ := hE.1
  have hcl := spc_le (L1 13 0)
  have h30 : (L1 13 0).length ≤ 30 := (h.line 0).2.1
  have sl : spc (L2 43 0) = spc (L1 13 0) := by rw [s3]
  have hu : ¬ mz_i m1 (8, 0) 7 = 0 := hW.elim (fun z => absurd z (by decide)) id
  have hp : pth (L1 13 0) (spc (L1 13 0) + 1) = some ss := hss ((hz5 hfit).2.2 rfl)
  have hN := hE.2.2.1
  have hr0 := hE.2.2.2.2.1
  have hw0 : ¬ mz_i m2 (46, 0) 0 = 0 := by
    rcases s7 with ⟨p, q⟩ | ⟨p, q⟩ | ⟨p, q⟩
    · exact absurd q hu
    · rw [p]; decide
    · rw [p]; decide
  obtain ⟨tg, pl, htg, hpl, hpn, hcls, href⟩ := path_0 hE ha hu hfr hp h
  refine ⟨fun _ => hcls _ (fun M5 h5 => ⟨20, rfl, by decide, fun z => absurd z (by decide), fun z => absurd z (by decide), fun z => absurd z (by decide), fun z => absurd z (by decide), fun z => absurd z (by decide), fun z => absurd z (by decide), fun z => absurd z (by decide), fun z => absurd z (by decide), fun z => absurd z (by decide), fun _ => ?_, fun n12 n13 n14 n15 n16 n17 n18 n19 n20 n21 => absurd rfl n21⟩), fun z => absurd rfl z⟩
  have e12 : mz_i M5 (8, 0) 12 = tg := h5.1 (8, 0) 12 rfl
  have rf : ∀ (M2 : MzM) (K2 : MzM → Prop), A2 M2 (mz_si (nB m2 0 a) (30, 0) 32 (Int32.ofNat (spc (L2 43 0) + 1))) L2 → ((mz_i m2 (48, 0) 0) = -1 → ∀ cc M4, A2 M4 (mz_si (mz_si (mz_si (mz_si (nB m2 0 a) (30, 0) 32 (Int32.ofNat (spc (L2 43 0) + 1))) (30, 0) 33 tg) (30, 0) 34 pl) (30, 0) 35 cc) L2 → wp_Mo_answer 503 M4 (clrK a K2)) → (¬ (mz_i m2 (48, 0) 0) = -1 → (∀ n p : Nat, ¬ rnOk m2 pl (mz_i m2 (48, 0) 0) n p) → ∀ cc M4, A2 M4 (mz_si (mz_si (mz_si (mz_si (nB m2 0 a) (30, 0) 32 (Int32.ofNat (spc (L2 43 0) + 1))) (30, 0) 33 tg) (30, 0) 34 pl) (30, 0) 35 cc) L2 → wp_Mo_answer 550 M4 (clrK a K2)) → (∀ n p : Nat, rnOk m2 pl (mz_i m2 (48, 0) 0) n p → mvd m2 n → ∀ cc M4, A2 M4 (mz_si (mz_si (mz_si (mz_si (nB m2 0 a) (30, 0) 32 (Int32.ofNat (spc (L2 43 0) + 1))) (30, 0) 33 tg) (30, 0) 34 pl) (30, 0) 35 cc) L2 → wp_Mo_answer 450 M4 (clrK a K2)) → (∀ n p : Nat, rnOk m2 pl (mz_i m2 (48, 0) 0) n p → ¬ mvd m2 n → ∀ cc M4, A2 M4 (mz_si (mz_si (mz_si (mz_si (mz_si (mz_si (nB m2 0 a) (30, 0) 32 (Int32.ofNat (spc (L2 43 0) + 1))) (30, 0) 33 tg) (30, 0) 34 pl) (30, 0) 35 cc) (34, 0) n (Int32.ofNat p)) (35, 0) n (lsI ss)) L2 → wp_Mo_answer 250 M4 (clrK a K2)) → wp_Mo_doLine_255 (clrK a K2) (mz_i m2 (47, 0) 0) (mz_i m2 (48, 0) 0) (mz_i m2 (49, 0) 0) (Int32.ofNat (20 + 1)) (eaI 20) M2 := by
    intro M2 K2 h2 k503 k550 k450 k250
    refine ⟨fun _ => mo_pc (fun _ => ⟨fun z => absurd z (by decide), fun _ => href M2 _ h2 (fun M3 cc h3 hcc => ⟨fun z => absurd z (by decide), fun _ => ⟨fun _ => ?_, fun z => absurd (by decide) z⟩⟩)⟩) (fun z => absurd z (by decide)), fun z => absurd z (by decide)⟩
    have go : ∀ ys0 : Int32, wp_Mo_doPath_24 (clrK a K2) (Int32.ofNat (20 + 1)) (mz_i m2 (48, 0) 0) ys0 M3 := by
      intro ys0
      refine mo_freeNode h3 ?_
      refine ⟨fun z => absurd z (by decide), fun z => absurd z (by decide), fun z => absurd z (by decide), fun z => absurd z (by decide), fun z => absurd z (by decide), fun z => absurd z (by decide), fun n7 n9 n17 n18 n19 n20 => ?_⟩
      refine mo_rnto (pl := pl) h3 hE rfl rfl rfl rfl rfl rfl s9.2 hpl (fun w => k503 w cc M3 h3) (fun w w' => k550 w w' cc M3 h3) (fun n p w hm => k450 n p w hm cc M3 h3) (fun n p w hm => k250 n p w hm cc _ ?_)
      have ec : cc = lsI ss := hcc (fun z => nneg w.2.2.2.2.1.1 (z.symm.trans w.2.2.2.2.2.1))
      rw [← ec]
      exact (h3.si (t := 34) (k := n) (v := Int32.ofNat p) rfl).si (t := 35) (k := n) (v := cc) rfl
    exact mo_flag (m2 := m2) h3 rfl rfl rfl (fun n hn => (hN n hn).2.1) htg (fun _ => go 1) (fun _ => go 0)
  refine pl_rnto (pl := pl) (rn := (mz_i m2 (48, 0) 0)) h5 hE s9.1 rfl (fun n k => rfl) s9.2 hpl (fun hz => ?_) (fun hr0' hz => ?_) (fun n p w hm => ?_) (fun n p w hm => ?_)
  · skip
    rintro _ rfl
    have ht := h5.si (o := (8, 0)) (k := 16) (v := 503) rfl
    refine pl_forget (v := 503) false false false ht rfl (fg_s (by decide)) (fg_2 (by decide)) (fg_2 (by decide)) (fun M9 h9 => ?_)
    have hEE : ∀ cc : Int32, EE (fgM (mz_si (mz_si (mz_si (mz_si (mS m1 0 (spc (L1 13 0)) fr vd) (8, 0) 16 0) (8, 0) 12 tg) (8, 0) 13 pl) (8, 0) 16 503) 0 false false false) (lu L1 15 0 ss) ((mz_si (mz_si (mz_si (mz_si (nB m2 0 a) (30, 0) 32 (Int32.ofNat (spc (L2 43 0) + 1))) (30, 0) 33 tg) (30, 0) 34 pl) (30, 0) 35 cc)) L2 := fun cc => ⟨⟨s1, s2, s3, Or.inl ⟨o0, rfl⟩, rfl, s6, s7, Or.inl ⟨rfl, rfl⟩, ⟨rfl, Or.inl rfl⟩, ⟨rfl, 0, by decide, rfl⟩, s11, s12, s13, s14, s15, s16⟩, hE.2.1, hE.2.2⟩
    refine finF_0 (m1 := m1) (m2 := m2) (v := 503) (a := a) (no := fun cc => (mz_si (mz_si (mz_si (mz_si (nB m2 0 a) (30, 0) 32 (Int32.ofNat (spc (L2 43 0) + 1))) (30, 0) 33 tg) (30, 0) 34 pl) (30, 0) 35 cc)) hEE ha (fun _ => ha) (fun _ => rfl) (by decide) (by decide) (by decide) (by decide) (fun _ => ⟨o0, rfl⟩) (fun _ => ⟨fun _ => rfl, rfl, rfl, rfl, rfl, rfl, rfl, rfl, rfl, rfl⟩) rfl h9 (fun M1' hr => hk M1' (fun M2 K2 h2 hk2 => rf M2 K2 h2 (fun _ cc M4 h4 => hr cc M4 K2 h4 hk2) (fun z => absurd hz z) (fun n p w => absurd (hz.symm.trans w.2.2.1) (nneg w.2.1)) (fun n p w => absurd (hz.symm.trans w.2.2.1) (nneg w.2.1))))
  · skip
    rintro _ rfl
    have ht := h5.si (o := (8, 0)) (k := 16) (v := 550) rfl
    refine pl_forget (v := 550) false false false ht rfl (fg_s (by decide)) (fg_2 (by decide)) (fg_2 (by decide)) (fun M9 h9 => ?_)
    have hEE : ∀ cc : Int32, EE (fgM (mz_si (mz_si (mz_si (mz_si (mS m1 0 (spc (L1 13 0)) fr vd) (8, 0) 16 0) (8, 0) 12 tg) (8, 0) 13 pl) (8, 0) 16 550) 0 false false false) (lu L1 15 0 ss) ((mz_si (mz_si (mz_si (mz_si (nB m2 0 a) (30, 0) 32 (Int32.ofNat (spc (L2 43 0) + 1))) (30, 0) 33 tg) (30, 0) 34 pl) (30, 0) 35 cc)) L2 := fun cc => ⟨⟨s1, s2, s3, Or.inl ⟨o0, rfl⟩, rfl, s6, s7, Or.inl ⟨rfl, rfl⟩, ⟨rfl, Or.inl rfl⟩, ⟨rfl, 0, by decide, rfl⟩, s11, s12, s13, s14, s15, s16⟩, hE.2.1, hE.2.2⟩
    refine finF_0 (m1 := m1) (m2 := m2) (v := 550) (a := a) (no := fun cc => (mz_si (mz_si (mz_si (mz_si (nB m2 0 a) (30, 0) 32 (Int32.ofNat (spc (L2 43 0) + 1))) (30, 0) 33 tg) (30, 0) 34 pl) (30, 0) 35 cc)) hEE ha (fun _ => ha) (fun _ => rfl) (by decide) (by decide) (by decide) (by decide) (fun _ => ⟨o0, rfl⟩) (fun _ => ⟨fun _ => rfl, rfl, rfl, rfl, rfl, rfl, rfl, rfl, rfl, rfl⟩) rfl h9 (fun M1' hr => hk M1' (fun M2 K2 h2 hk2 => rf M2 K2 h2 (fun z => absurd z hr0') (fun _ _ cc M4 h4 => hr cc M4 K2 h4 hk2) (fun n p w => absurd w (hz n p)) (fun n p w => absurd w (hz n p))))
  · skip
    rintro _ rfl
    have ht := h5.si (o := (8, 0)) (k := 16) (v := 450) rfl
    refine pl_forget (v := 450) false false false ht rfl (fg_s (by decide)) (fg_2 (by decide)) (fg_2 (by decide)) (fun M9 h9 => ?_)
    have hEE : ∀ cc : Int32, EE (fgM (mz_si (mz_si (mz_si (mz_si (mS m1 0 (spc (L1 13 0)) fr vd) (8, 0) 16 0) (8, 0) 12 tg) (8, 0) 13 pl) (8, 0) 16 450) 0 false false false) (lu L1 15 0 ss) ((mz_si (mz_si (mz_si (mz_si (nB m2 0 a) (30, 0) 32 (Int32.ofNat (spc (L2 43 0) + 1))) (30, 0) 33 tg) (30, 0) 34 pl) (30, 0) 35 cc)) L2 := fun cc => ⟨⟨s1, s2, s3, Or.inl ⟨o0, rfl⟩, rfl, s6, s7, Or.inl ⟨rfl, rfl⟩, ⟨rfl, Or.inl rfl⟩, ⟨rfl, 0, by decide, rfl⟩, s11, s12, s13, s14, s15, s16⟩, hE.2.1, hE.2.2⟩
    refine finF_0 (m1 := m1) (m2 := m2) (v := 450) (a := a) (no := fun cc => (mz_si (mz_si (mz_si (mz_si (nB m2 0 a) (30, 0) 32 (Int32.ofNat (spc (L2 43 0) + 1))) (30, 0) 33 tg) (30, 0) 34 pl) (30, 0) 35 cc)) hEE ha (fun _ => ha) (fun _ => rfl) (by decide) (by decide) (by decide) (by decide) (fun _ => ⟨o0, rfl⟩) (fun _ => ⟨fun _ => rfl, rfl, rfl, rfl, rfl, rfl, rfl, rfl, rfl, rfl⟩) rfl h9 (fun M1' hr => hk M1' (fun M2 K2 h2 hk2 => rf M2 K2 h2 (fun z => absurd (z.symm.trans w.2.2.1) (nneg w.2.1)) (fun _ z => absurd w (z n p)) (fun n' p' w' _ cc M4 h4 => hr cc M4 K2 h4 hk2) (fun n' p' w' hm' => absurd (by rw [← (rnOk_uniq w w').1]; exact hm) hm')))
  · have hnm : nmE (lsI ss) := (hpn (fun z => nneg w.2.2.2.2.1.1 (z.symm.trans w.2.2.2.2.2.1))).2
    have h6 := (h5.si (o := (3, n)) (k := 2) (v := Int32.ofNat p) rfl).si (o := (3, n)) (k := 3) (v := lsI ss) rfl
    rw [lu_same]
    have hE1 := ee_mv hE w.2.1 w.1 w.2.2.2.1 w.2.2.2.2.1 hnm w.2.2.2.2.2.2
    obtain ⟨s1, s2, s3, s4, s5, s6, s7, s8, s9', s10, s11, s12, s13, s14, s15, s16⟩ := hE1.1
    rintro _ rfl
    have ht := h6.si (o := (8, 0)) (k := 16) (v := 250) rfl
    refine pl_forget (v := 250) false false false ht rfl (fg_s (by decide)) (fg_2 (by decide)) (fg_2 (by decide)) (fun M9 h9 => ?_)
    have hEE : ∀ cc : Int32, EE (fgM (mz_si (mz_si (mz_si (mz_si (mz_si (mz_si (mS m1 0 (spc (L1 13 0)) fr vd) (8, 0) 16 0) (8, 0) 12 tg) (8, 0) 13 pl) (3, n) 2 (Int32.ofNat p)) (3, n) 3 (lsI ss)) (8, 0) 16 250) 0 false false false) (lu L1 15 0 ss) (mz_si (mz_si (mz_si (mz_si (mz_si (mz_si (nB m2 0 a) (30, 0) 32 (Int32.ofNat (spc (L2 43 0) + 1))) (30, 0) 33 tg) (30, 0) 34 pl) (30, 0) 35 cc) (34, 0) n (Int32.ofNat p)) (35, 0) n (lsI ss)) L2 := fun cc => ⟨⟨s1, s2, s3, Or.inl ⟨o0, rfl⟩, rfl, s6, s7, Or.inl ⟨rfl, rfl⟩, ⟨rfl, Or.inl rfl⟩, ⟨rfl, 0, by decide, rfl⟩, s11, s12, s13, s14, s15, s16⟩, hE1.2⟩
    refine finF_0 (m1 := m1) (m2 := m2) (v := 250) (a := a) (no := fun cc => mz_si (mz_si (mz_si (mz_si (mz_si (mz_si (nB m2 0 a) (30, 0) 32 (Int32.ofNat (spc (L2 43 0) + 1))) (30, 0) 33 tg) (30, 0) 34 pl) (30, 0) 35 cc) (34, 0) n (Int32.ofNat p)) (35, 0) n (lsI ss)) hEE ha (fun _ => ha) (fun _ => rfl) (by decide) (by decide) (by decide) (by decide) (fun _ => ⟨o0, rfl⟩) (fun _ => ⟨fun _ => rfl, rfl, rfl, rfl, rfl, rfl, rfl, rfl, rfl, rfl⟩) rfl h9 (fun M1' hr => hk M1' (fun M2 K2 h2 hk2 => rf M2 K2 h2 (fun z => absurd (z.symm.trans w.2.2.1) (nneg w.2.1)) (fun _ z => absurd w (z n p)) (fun n' p' w' hm' => absurd (by rw [(rnOk_uniq w w').1]; exact hm') hm) (fun n' p' w' _ cc M4 h4 => ?_)))
    obtain ⟨en, ep⟩ := rnOk_uniq w w'
    subst en
    subst ep
    exact hr cc M4 K2 h4 hk2
theorem ob_1_20 : obPred 1 20 := by
  intro m1 m2 M L1 L2 fr vd a ss K hE o0 ha hfit hW hD hA hfr hss h hk
  obtain ⟨s1, s2, s3, s4, s5, s6, s7, s8, s9, s10, s11, s12, s13, s14, s15, s16⟩ := hE.2.1
  have hcl := spc_le (L1 13 1)
  have h30 : (L1 13 1).length ≤ 30 := (h.line 1).2.1
  have sl : spc (L2 43 1) = spc (L1 13 1) := by rw [s3]
  have hu : ¬ mz_i m1 (8, 1) 7 = 0 := hW.elim (fun z => absurd z (by decide)) id
  have hp : pth (L1 13 1) (spc (L1 13 1) + 1) = some ss := hss ((hz5 hfit).2.2 rfl)
  have hN := hE.2.2.1
  have hr0 := hE.2.2.2.2.1
  have hw0 : ¬ mz_i m2 (46, 0) 1 = 0 := by
    rcases s7 with ⟨p, q⟩ | ⟨p, q⟩ | ⟨p, q⟩
    · exact absurd q hu
    · rw [p]; decide
    · rw [p]; decide
  obtain ⟨tg, pl, htg, hpl, hpn, hcls, href⟩ := path_1 hE ha hu hfr hp h
  refine ⟨fun _ => hcls _ (fun M5 h5 => ⟨20, rfl, by decide, fun z => absurd z (by decide), fun z => absurd z (by decide), fun z => absurd z (by decide), fun z => absurd z (by decide), fun z => absurd z (by decide), fun z => absurd z (by decide), fun z => absurd z (by decide), fun z => absurd z (by decide), fun z => absurd z (by decide), fun _ => ?_, fun n12 n13 n14 n15 n16 n17 n18 n19 n20 n21 => absurd rfl n21⟩), fun z => absurd rfl z⟩
  have e12 : mz_i M5 (8, 1) 12 = tg := h5.1 (8, 1) 12 rfl
  have rf : ∀ (M2 : MzM) (K2 : MzM → Prop), A2 M2 (mz_si (nB m2 1 a) (30, 0) 32 (Int32.ofNat (spc (L2 43 1) + 1))) L2 → ((mz_i m2 (48, 0) 1) = -1 → ∀ cc M4, A2 M4 (mz_si (mz_si (mz_si (mz_si (nB m2 1 a) (30, 0) 32 (Int32.ofNat (spc (L2 43 1) + 1))) (30, 0) 33 tg) (30, 0) 34 pl) (30, 0) 35 cc) L2 → wp_Mo_answer 503 M4 (clrK a K2)) → (¬ (mz_i m2 (48, 0) 1) = -1 → (∀ n p : Nat, ¬ rnOk m2 pl (mz_i m2 (48, 0) 1) n p) → ∀ cc M4, A2 M4 (mz_si (mz_si (mz_si (mz_si (nB m2 1 a) (30, 0) 32 (Int32.ofNat (spc (L2 43 1) + 1))) (30, 0) 33 tg) (30, 0) 34 pl) (30, 0) 35 cc) L2 → wp_Mo_answer 550 M4 (clrK a K2)) → (∀ n p : Nat, rnOk m2 pl (mz_i m2 (48, 0) 1) n p → mvd m2 n → ∀ cc M4, A2 M4 (mz_si (mz_si (mz_si (mz_si (nB m2 1 a) (30, 0) 32 (Int32.ofNat (spc (L2 43 1) + 1))) (30, 0) 33 tg) (30, 0) 34 pl) (30, 0) 35 cc) L2 → wp_Mo_answer 450 M4 (clrK a K2)) → (∀ n p : Nat, rnOk m2 pl (mz_i m2 (48, 0) 1) n p → ¬ mvd m2 n → ∀ cc M4, A2 M4 (mz_si (mz_si (mz_si (mz_si (mz_si (mz_si (nB m2 1 a) (30, 0) 32 (Int32.ofNat (spc (L2 43 1) + 1))) (30, 0) 33 tg) (30, 0) 34 pl) (30, 0) 35 cc) (34, 0) n (Int32.ofNat p)) (35, 0) n (lsI ss)) L2 → wp_Mo_answer 250 M4 (clrK a K2)) → wp_Mo_doLine_255 (clrK a K2) (mz_i m2 (47, 0) 1) (mz_i m2 (48, 0) 1) (mz_i m2 (49, 0) 1) (Int32.ofNat (20 + 1)) (eaI 20) M2 := by
    intro M2 K2 h2 k503 k550 k450 k250
    refine ⟨fun _ => mo_pc (fun _ => ⟨fun z => absurd z (by decide), fun _ => href M2 _ h2 (fun M3 cc h3 hcc => ⟨fun z => absurd z (by decide), fun _ => ⟨fun _ => ?_, fun z => absurd (by decide) z⟩⟩)⟩) (fun z => absurd z (by decide)), fun z => absurd z (by decide)⟩
    have go : ∀ ys0 : Int32, wp_Mo_doPath_24 (clrK a K2) (Int32.ofNat (20 + 1)) (mz_i m2 (48, 0) 1) ys0 M3 := by
      intro ys0
      refine mo_freeNode h3 ?_
      refine ⟨fun z => absurd z (by decide), fun z => absurd z (by decide), fun z => absurd z (by decide), fun z => absurd z (by decide), fun z => absurd z (by decide), fun z => absurd z (by decide), fun n7 n9 n17 n18 n19 n20 => ?_⟩
      refine mo_rnto (pl := pl) h3 hE rfl rfl rfl rfl rfl rfl s9.2 hpl (fun w => k503 w cc M3 h3) (fun w w' => k550 w w' cc M3 h3) (fun n p w hm => k450 n p w hm cc M3 h3) (fun n p w hm => k250 n p w hm cc _ ?_)
      have ec : cc = lsI ss := hcc (fun z => nneg w.2.2.2.2.1.1 (z.symm.trans w.2.2.2.2.2.1))
      rw [← ec]
      exact (h3.si (t := 34) (k := n) (v := Int32.ofNat p) rfl).si (t := 35) (k := n) (v := cc) rfl
    exact mo_flag (m2 := m2) h3 rfl rfl rfl (fun n hn => (hN n hn).2.1) htg (fun _ => go 1) (fun _ => go 0)
  refine pl_rnto (pl := pl) (rn := (mz_i m2 (48, 0) 1)) h5 hE s9.1 rfl (fun n k => rfl) s9.2 hpl (fun hz => ?_) (fun hr0' hz => ?_) (fun n p w hm => ?_) (fun n p w hm => ?_)
  · skip
    rintro _ rfl
    have ht := h5.si (o := (8, 1)) (k := 16) (v := 503) rfl
    refine pl_forget (v := 503) false false false ht rfl (fg_s (by decide)) (fg_2 (by decide)) (fg_2 (by decide)) (fun M9 h9 => ?_)
    have hEE : ∀ cc : Int32, EE (fgM (mz_si (mz_si (mz_si (mz_si (mS m1 1 (spc (L1 13 1)) fr vd) (8, 1) 16 0) (8, 1) 12 tg) (8, 1) 13 pl) (8, 1) 16 503) 1 false false false) (lu L1 15 1 ss) ((mz_si (mz_si (mz_si (mz_si (nB m2 1 a) (30, 0) 32 (Int32.ofNat (spc (L2 43 1) + 1))) (30, 0) 33 tg) (30, 0) 34 pl) (30, 0) 35 cc)) L2 := fun cc => ⟨hE.1, ⟨s1, s2, s3, Or.inl ⟨o0, rfl⟩, rfl, s6, s7, Or.inl ⟨rfl, rfl⟩, ⟨rfl, Or.inl rfl⟩, ⟨rfl, 0, by decide, rfl⟩, s11, s12, s13, s14, s15, s16⟩, hE.2.2⟩
    refine finF_1 (m1 := m1) (m2 := m2) (v := 503) (a := a) (no := fun cc => (mz_si (mz_si (mz_si (mz_si (nB m2 1 a) (30, 0) 32 (Int32.ofNat (spc (L2 43 1) + 1))) (30, 0) 33 tg) (30, 0) 34 pl) (30, 0) 35 cc)) hEE ha (fun _ => ha) (fun _ => rfl) (by decide) (by decide) (by decide) (by decide) (fun _ => ⟨o0, rfl⟩) (fun _ => ⟨fun _ => rfl, rfl, rfl, rfl, rfl, rfl, rfl, rfl, rfl, rfl⟩) rfl h9 (fun M1' hr => hk M1' (fun M2 K2 h2 hk2 => rf M2 K2 h2 (fun _ cc M4 h4 => hr cc M4 K2 h4 hk2) (fun z => absurd hz z) (fun n p w => absurd (hz.symm.trans w.2.2.1) (nneg w.2.1)) (fun n p w => absurd (hz.symm.trans w.2.2.1) (nneg w.2.1))))
  · skip
    rintro _ rfl
    have ht := h5.si (o := (8, 1)) (k := 16) (v := 550) rfl
    refine pl_forget (v := 550) false false false ht rfl (fg_s (by decide)) (fg_2 (by decide)) (fg_2 (by decide)) (fun M9 h9 => ?_)
    have hEE : ∀ cc : Int32, EE (fgM (mz_si (mz_si (mz_si (mz_si (mS m1 1 (spc (L1 13 1)) fr vd) (8, 1) 16 0) (8, 1) 12 tg) (8, 1) 13 pl) (8, 1) 16 550) 1 false false false) (lu L1 15 1 ss) ((mz_si (mz_si (mz_si (mz_si (nB m2 1 a) (30, 0) 32 (Int32.ofNat (spc (L2 43 1) + 1))) (30, 0) 33 tg) (30, 0) 34 pl) (30, 0) 35 cc)) L2 := fun cc => ⟨hE.1, ⟨s1, s2, s3, Or.inl ⟨o0, rfl⟩, rfl, s6, s7, Or.inl ⟨rfl, rfl⟩, ⟨rfl, Or.inl rfl⟩, ⟨rfl, 0, by decide, rfl⟩, s11, s12, s13, s14, s15, s16⟩, hE.2.2⟩
    refine finF_1 (m1 := m1) (m2 := m2) (v := 550) (a := a) (no := fun cc => (mz_si (mz_si (mz_si (mz_si (nB m2 1 a) (30, 0) 32 (Int32.ofNat (spc (L2 43 1) + 1))) (30, 0) 33 tg) (30, 0) 34 pl) (30, 0) 35 cc)) hEE ha (fun _ => ha) (fun _ => rfl) (by decide) (by decide) (by decide) (by decide) (fun _ => ⟨o0, rfl⟩) (fun _ => ⟨fun _ => rfl, rfl, rfl, rfl, rfl, rfl, rfl, rfl, rfl, rfl⟩) rfl h9 (fun M1' hr => hk M1' (fun M2 K2 h2 hk2 => rf M2 K2 h2 (fun z => absurd z hr0') (fun _ _ cc M4 h4 => hr cc M4 K2 h4 hk2) (fun n p w => absurd w (hz n p)) (fun n p w => absurd w (hz n p))))
  · skip
    rintro _ rfl
    have ht := h5.si (o := (8, 1)) (k := 16) (v := 450) rfl
    refine pl_forget (v := 450) false false false ht rfl (fg_s (by decide)) (fg_2 (by decide)) (fg_2 (by decide)) (fun M9 h9 => ?_)
    have hEE : ∀ cc : Int32, EE (fgM (mz_si (mz_si (mz_si (mz_si (mS m1 1 (spc (L1 13 1)) fr vd) (8, 1) 16 0) (8, 1) 12 tg) (8, 1) 13 pl) (8, 1) 16 450) 1 false false false) (lu L1 15 1 ss) ((mz_si (mz_si (mz_si (mz_si (nB m2 1 a) (30, 0) 32 (Int32.ofNat (spc (L2 43 1) + 1))) (30, 0) 33 tg) (30, 0) 34 pl) (30, 0) 35 cc)) L2 := fun cc => ⟨hE.1, ⟨s1, s2, s3, Or.inl ⟨o0, rfl⟩, rfl, s6, s7, Or.inl ⟨rfl, rfl⟩, ⟨rfl, Or.inl rfl⟩, ⟨rfl, 0, by decide, rfl⟩, s11, s12, s13, s14, s15, s16⟩, hE.2.2⟩
    refine finF_1 (m1 := m1) (m2 := m2) (v := 450) (a := a) (no := fun cc => (mz_si (mz_si (mz_si (mz_si (nB m2 1 a) (30, 0) 32 (Int32.ofNat (spc (L2 43 1) + 1))) (30, 0) 33 tg) (30, 0) 34 pl) (30, 0) 35 cc)) hEE ha (fun _ => ha) (fun _ => rfl) (by decide) (by decide) (by decide) (by decide) (fun _ => ⟨o0, rfl⟩) (fun _ => ⟨fun _ => rfl, rfl, rfl, rfl, rfl, rfl, rfl, rfl, rfl, rfl⟩) rfl h9 (fun M1' hr => hk M1' (fun M2 K2 h2 hk2 => rf M2 K2 h2 (fun z => absurd (z.symm.trans w.2.2.1) (nneg w.2.1)) (fun _ z => absurd w (z n p)) (fun n' p' w' _ cc M4 h4 => hr cc M4 K2 h4 hk2) (fun n' p' w' hm' => absurd (by rw [← (rnOk_uniq w w').1]; exact hm) hm')))
  · have hnm : nmE (lsI ss) := (hpn (fun z => nneg w.2.2.2.2.1.1 (z.symm.trans w.2.2.2.2.2.1))).2
    have h6 := (h5.si (o := (3, n)) (k := 2) (v := Int32.ofNat p) rfl).si (o := (3, n)) (k := 3) (v := lsI ss) rfl
    rw [lu_same]
    have hE1 := ee_mv hE w.2.1 w.1 w.2.2.2.1 w.2.2.2.2.1 hnm w.2.2.2.2.2.2
    obtain ⟨s1, s2, s3, s4, s5, s6, s7, s8, s9', s10, s11, s12, s13, s14, s15, s16⟩ := hE1.2.1
    rintro _ rfl
    have ht := h6.si (o := (8, 1)) (k := 16) (v := 250) rfl
    refine pl_forget (v := 250) false false false ht rfl (fg_s (by decide)) (fg_2 (by decide)) (fg_2 (by decide)) (fun M9 h9 => ?_)
    have hEE : ∀ cc : Int32, EE (fgM (mz_si (mz_si (mz_si (mz_si (mz_si (mz_si (mS m1 1 (spc (L1 13 1)) fr vd) (8, 1) 16 0) (8, 1) 12 tg) (8, 1) 13 pl) (3, n) 2 (Int32.ofNat p)) (3, n) 3 (lsI ss)) (8, 1) 16 250) 1 false false false) (lu L1 15 1 ss) (mz_si (mz_si (mz_si (mz_si (mz_si (mz_si (nB m2 1 a) (30, 0) 32 (Int32.ofNat (spc (L2 43 1) + 1))) (30, 0) 33 tg) (30, 0) 34 pl) (30, 0) 35 cc) (34, 0) n (Int32.ofNat p)) (35, 0) n (lsI ss)) L2 := fun cc => ⟨hE1.1, ⟨s1, s2, s3, Or.inl ⟨o0, rfl⟩, rfl, s6, s7, Or.inl ⟨rfl, rfl⟩, ⟨rfl, Or.inl rfl⟩, ⟨rfl, 0, by decide, rfl⟩, s11, s12, s13, s14, s15, s16⟩, hE1.2.2⟩
    refine finF_1 (m1 := m1) (m2 := m2) (v := 250) (a := a) (no := fun cc => mz_si (mz_si (mz_si (mz_si (mz_si (mz_si (nB m2 1 a) (30, 0) 32 (Int32.ofNat (spc (L2 43 1) + 1))) (30, 0) 33 tg) (30, 0) 34 pl) (30, 0) 35 cc) (34, 0) n (Int32.ofNat p)) (35, 0) n (lsI ss)) hEE ha (fun _ => ha) (fun _ => rfl) (by decide) (by decide) (by decide) (by decide) (fun _ => ⟨o0, rfl⟩) (fun _ => ⟨fun _ => rfl, rfl, rfl, rfl, rfl, rfl, rfl, rfl, rfl, rfl⟩) rfl h9 (fun M1' hr => hk M1' (fun M2 K2 h2 hk2 => rf M2 K2 h2 (fun z => absurd (z.symm.trans w.2.2.1) (nneg w.2.1)) (fun _ z => absurd w (z n p)) (fun n' p' w' hm' => absurd (by rw [(rnOk_uniq w w').1]; exact hm') hm) (fun n' p' w' _ cc M4 h4 => ?_)))
    obtain ⟨en, ep⟩ := rnOk_uniq w w'
    subst en
    subst ep
    exact hr cc M4 K2 h4 hk2
