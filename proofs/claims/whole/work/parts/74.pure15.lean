/-- the copier's places after a cut -/
def intM (m : MzM) : MzM := if mz_i m (22, 0) 5 ≤ 0 then mz_si (mz_si m (22, 0) 6 0) (22, 0) 7 1 else mz_si (mz_si m (22, 0) 6 0) (22, 0) 5 (mz_i m (22, 0) 5 - 1)
theorem pl_interrupt {M m : MzM} {L : MzV} {K : MzM → Prop} (h : A1 M m L) (hk : ∀ M', A1 M' (intM m) L → K M') : wp_Cop_interrupt M K := by
  rintro _ rfl
  have e5 : mz_i (mz_si M (22, 0) 6 0) (22, 0) 5 = mz_i m (22, 0) 5 := h.1 (22, 0) 5 rfl
  have h1 := h.si (o := (22, 0)) (k := 6) (v := 0) rfl
  rw [e5]
  refine ⟨fun ht => ?_, fun ht => ?_⟩
  · have e : intM m = mz_si (mz_si m (22, 0) 6 0) (22, 0) 7 1 := if_pos ht
    rw [e] at hk
    rintro _ rfl
    exact hk _ (h1.si (o := (22, 0)) (k := 7) (v := 1) rfl)
  · have e : intM m = mz_si (mz_si m (22, 0) 6 0) (22, 0) 5 (mz_i m (22, 0) 5 - 1) := if_neg ht
    rw [e] at hk
    rintro _ rfl
    exact hk _ (h1.si (o := (22, 0)) (k := 5) (v := mz_i m (22, 0) 5 - 1) rfl)
theorem cop_int {m1 m2 : MzM} {L1 L2 : MzV} (hE : EE m1 L1 m2 L2) : ∃ m2' : MzM, EE (intM m1) L1 m2' L2 ∧ (∀ (M : MzM) (K : MzM → Prop), A2 M m2 L2 → (∀ M', A2 M' m2' L2 → K M') → wp_Mo_loseTry M K) := by
  obtain ⟨⟨c1, c2⟩, c3⟩ := hE.2.2.2.2.2.2.1
  rcases c2 with c2 | c2
  · have rf : ∀ (M : MzM) (K : MzM → Prop), A2 M m2 L2 → (∀ M', A2 M' m2 L2 → K M') → wp_Mo_loseTry M K := fun M K h hk => ⟨fun h9 => absurd ((h.1 30 38 rfl).trans c2) h9, fun _ => hk M h⟩
    by_cases ht : mz_i m1 (22, 0) 5 ≤ 0
    · have e : intM m1 = mz_si (mz_si m1 (22, 0) 6 0) (22, 0) 7 1 := if_pos ht
      rw [e]
      exact ⟨m2, ⟨hE.1, hE.2.1, hE.2.2.1, hE.2.2.2.1, hE.2.2.2.2.1, hE.2.2.2.2.2.1, ⟨⟨c1, Or.inl c2⟩, fun z => absurd (c2.symm.trans z) (by decide)⟩, hE.2.2.2.2.2.2.2.1, hE.2.2.2.2.2.2.2.2⟩, rf⟩
    · have e : intM m1 = mz_si (mz_si m1 (22, 0) 6 0) (22, 0) 5 (mz_i m1 (22, 0) 5 - 1) := if_neg ht
      rw [e]
      exact ⟨m2, ⟨hE.1, hE.2.1, hE.2.2.1, hE.2.2.2.1, hE.2.2.2.2.1, hE.2.2.2.2.2.1, ⟨⟨c1, Or.inl c2⟩, fun z => absurd (c2.symm.trans z) (by decide)⟩, hE.2.2.2.2.2.2.2.1, hE.2.2.2.2.2.2.2.2⟩, rf⟩
  · obtain ⟨d1, d2, d3, ⟨d4, n, hn, d5⟩, d6, d7⟩ := c3 c2
    have e1 : (mz_i m1 (22, 0) 5).toInt = (n : Int) := by rw [d4, d5]; exact itn (by omega)
    have e2 : (mz_i m2 (30, 0) 42).toInt = (n : Int) := by rw [d5]; exact itn (by omega)
    have on1 : ∀ M, A2 M m2 L2 → ¬ mz_i M (30, 0) 38 = 0 := fun M h => by rw [h.1 30 38 rfl, c2]; decide
    by_cases h0 : n = 0
    · have ht : mz_i m1 (22, 0) 5 ≤ 0 := (ile (n := 0) e1 rfl).mpr (by omega)
      have ht2 : mz_i m2 (30, 0) 42 ≤ 0 := (ile (n := 0) e2 rfl).mpr (by omega)
      subst h0
      have e : intM m1 = mz_si (mz_si m1 (22, 0) 6 0) (22, 0) 7 1 := if_pos ht
      rw [e]
      refine ⟨mz_si (mz_si m2 (30, 0) 43 5) (30, 0) 42 0, ⟨hE.1, hE.2.1, hE.2.2.1, hE.2.2.2.1, hE.2.2.2.2.1, hE.2.2.2.2.2.1, ⟨⟨c1, Or.inr c2⟩, fun _ => ⟨d1, d2, d3, ⟨d4.trans d5, 0, by omega, rfl⟩, Or.inr ⟨rfl, rfl, rfl⟩, fun z => absurd (show (5 : Int32) = 2 from z) (by decide)⟩⟩, hE.2.2.2.2.2.2.2.1, hE.2.2.2.2.2.2.2.2⟩, fun M K h hk => ⟨fun _ => ⟨fun _ => ?_, fun h9 => absurd ?_ h9⟩, fun h9 => absurd h9 (on1 M h)⟩⟩
      · rintro _ rfl
        have e5 : mz_i (mz_si M (30, 0) 43 5) (30, 0) 42 = mz_i m2 (30, 0) 42 := h.1 30 42 rfl
        have h1 := h.si (t := 30) (k := 43) (v := 5) rfl
        rw [e5]
        refine ⟨fun _ => ?_, fun q => absurd ht2 q⟩
        rintro _ rfl
        exact hk _ (h1.si (t := 30) (k := 42) (v := 0) rfl)
      · rw [h.1 30 42 rfl]
        exact ht2
    · have ht : ¬ mz_i m1 (22, 0) 5 ≤ 0 := fun q => by
        have q1 := (ile (n := 0) e1 rfl).mp q
        omega
      have ht2 : ¬ mz_i m2 (30, 0) 42 ≤ 0 := fun q => by
        have q1 := (ile (n := 0) e2 rfl).mp q
        omega
      have hp : mz_i m2 (30, 0) 42 - 1 = Int32.ofNat (n - 1) := i32_pred (by rw [d5, Nat.sub_add_cancel (by omega)]) (by omega)
      have e : intM m1 = mz_si (mz_si m1 (22, 0) 6 0) (22, 0) 5 (mz_i m1 (22, 0) 5 - 1) := if_neg ht
      rw [e]
      refine ⟨mz_si (mz_si m2 (30, 0) 43 0) (30, 0) 42 (mz_i m2 (30, 0) 42 - 1), ⟨hE.1, hE.2.1, hE.2.2.1, hE.2.2.2.1, hE.2.2.2.2.1, hE.2.2.2.2.2.1, ⟨⟨c1, Or.inr c2⟩, fun _ => ⟨d1, d2, d3, ⟨congrArg (· - 1) d4, n - 1, by omega, hp⟩, ?_, fun z => absurd (show (0 : Int32) = 2 from z) (by decide)⟩⟩, hE.2.2.2.2.2.2.2.1, hE.2.2.2.2.2.2.2.2⟩, fun M K h hk => ⟨fun _ => ⟨fun h9 => absurd h9 ?_, fun _ => ?_⟩, fun h9 => absurd h9 (on1 M h)⟩⟩
      · rcases d6 with ⟨d6, _⟩ | ⟨d6, d8⟩
        · exact Or.inl ⟨d6, rfl, Or.inl rfl⟩
        · refine absurd ?_ ht2
          rw [d8.2]
          decide
      · rw [h.1 30 42 rfl]
        exact ht2
      · rintro _ rfl
        have e5 : mz_i (mz_si M (30, 0) 43 0) (30, 0) 42 = mz_i m2 (30, 0) 42 := h.1 30 42 rfl
        have h1 := h.si (t := 30) (k := 43) (v := 0) rfl
        rw [e5]
        refine ⟨fun q => absurd q ht2, fun _ => ?_⟩
        rintro _ rfl
        exact hk _ (h1.si (t := 30) (k := 42) (v := mz_i m2 (30, 0) 42 - 1) rfl)
theorem rr_cut : sim_cut RR := by
  intro M1 M2 a hl1 hl2 hR
  obtain ⟨m1, L1, m2, L2, h1, h2, hE⟩ := hR
  refine pl_ses (fun h => ⟨fun _ => ?_, fun h9 => absurd h9 (by decide)⟩) (fun h => ⟨fun h9 => absurd rfl h9, fun _ => ?_⟩)
  · rcases h with rfl | rfl
    · obtain ⟨m1', L1', L2', hE', p1, p2, _⟩ := drop_0 hE.thr
      refine ⟨0, rfl, by decide, p1 M1 _ h1 (fun M1' h1' => ⟨fun _ => ?_, fun h9 => absurd h9 (by decide)⟩)⟩
      intro N hN
      have h2' : A2 N (mz_si m2 (30, 0) 1 0) L2 := by rw [hN]; exact h2.si (t := 30) rfl
      refine mo_ses (fun _ => ⟨fun _ => ?_, fun h9 => absurd h9 (by decide)⟩) (fun h9 => absurd (Or.inl rfl) h9)
      exact p2 N _ 0 _ rfl (fun _ _ _ => rfl) h2' (fun M2' h3 => ⟨fun _ => ⟨rfl, _, _, _, _, h1', h3, hE'⟩, fun h9 => absurd h9 (by decide)⟩)
    · obtain ⟨m1', L1', L2', hE', p1, p2, _⟩ := drop_1 hE.thr
      obtain ⟨m4, hE3, q2⟩ := cop_int hE'
      refine ⟨1, rfl, by decide, p1 M1 _ h1 (fun M1' h1' => ⟨fun h9 => absurd rfl h9, fun _ => pl_interrupt h1' (fun M3 h4 => ?_)⟩)⟩
      intro N hN
      have h2' : A2 N (mz_si m2 (30, 0) 1 0) L2 := by rw [hN]; exact h2.si (t := 30) rfl
      refine mo_ses (fun _ => ⟨fun _ => ?_, fun h9 => absurd h9 (by decide)⟩) (fun h9 => absurd (Or.inr rfl) h9)
      exact p2 N _ 1 _ rfl (fun _ _ _ => rfl) h2' (fun M2' h3 => ⟨fun h9 => absurd rfl h9, fun _ => q2 M2' _ h3 (fun M4 h5 => ⟨rfl, _, _, _, _, h4, h5, hE3⟩)⟩)
  · rintro M rfl
    exact mo_ses (fun h9 => absurd h9 h) (fun _ => ⟨fun h9 => absurd rfl h9, fun _ => ⟨rfl, rr_clr M1 M2 ⟨m1, L1, m2, L2, h1, h2, hE⟩⟩⟩)
/-- whole blocks of four -/
def tr4 (l : List Int32) : List Int32 := l.take (l.length - l.length % 4)
theorem sub_mod4 {v : Int32} {n : Nat} (h : v = Int32.ofNat n) (hn : n ≤ 24) : v - (v - v / (4 : Int32) * (4 : Int32)) = Int32.ofNat (n - n % 4) := by
  have e1 : v.toInt = (n : Int) := by rw [h]; exact itn (by omega)
  have e2 := imod (c := 4) (n := 4) e1 rfl
  refine iofn ?_
  rw [isub e1 e2 (by omega) (by omega)]
  omega
theorem pl_lose_loop {m1 : MzM} {L1 : MzV} {K : MzM → Prop} (hk : ∀ M' m' L', A1 M' m' L' → (∀ (p : MzL) (k : Nat), ¬ (p.1 = 3 ∧ k = 6) → mz_i m' p k = mz_i m1 p k) → (∀ p k, mz_r m' p k = mz_r m1 p k) → (∀ n : Nat, n < 16 → mz_i m' (3, n) 6 = 0) → (∀ t n : Nat, ¬ t = 5 → L' t n = L1 t n) → (∀ n : Nat, n < 16 → L' 5 n = if mz_i m1 (3, n) 6 = 0 then L1 5 n else tr4 (L1 5 n)) → K M') : ∀ (r i : Nat) (M m : MzM) (L : MzV), i + r = 16 → A1 M m L → (∀ (p : MzL) (k : Nat), ¬ (p.1 = 3 ∧ k = 6) → mz_i m p k = mz_i m1 p k) → (∀ p k, mz_r m p k = mz_r m1 p k) → (∀ n : Nat, n < 16 → mz_i m (3, n) 6 = if n < i then 0 else mz_i m1 (3, n) 6) → (∀ t n : Nat, ¬ t = 5 → L t n = L1 t n) → (∀ n : Nat, n < 16 → L 5 n = if n < i ∧ ¬ mz_i m1 (3, n) 6 = 0 then tr4 (L1 5 n) else L1 5 n) → wp_Store_loseUnsafeBytes_2 K (r + 1) (Int32.ofNat i) M := by
  intro r
  induction r with
  | zero =>
    intro i M m L hi h a1 a2 a3 a4 a5
    have hi' : i = 16 := by omega
    subst hi'
    refine ⟨fun _ => hk M m L h a1 a2 (fun n hn => ?_) a4 (fun n hn => ?_), fun h9 => absurd (by decide) h9⟩
    · rw [a3 n hn, if_pos hn]
    · rw [a5 n hn]
      by_cases z : mz_i m1 (3, n) 6 = 0
      · rw [if_neg (fun q => q.2 z), if_pos z]
      · rw [if_pos ⟨hn, z⟩, if_neg z]
  | succ r ih =>
    intro i M m L hi h a1 a2 a3 a4 a5
    obtain ⟨g1, g2⟩ := i32_of16 (show i < 16 by omega)
    have es : Int32.ofNat i + 1 = Int32.ofNat (i + 1) := i32_succ rfl
    have e6 : mz_i M (3, i) 6 = mz_i m1 (3, i) 6 := by rw [h.1 (3, i) 6 rfl, a3 i (by omega), if_neg (by omega)]
    have e5 : L 5 i = L1 5 i := by rw [a5 i (by omega), if_neg (fun q => absurd q.1 (by omega))]
    refine ⟨fun h9 => absurd h9 g1, fun _ => ⟨i, g2, by omega, fun h0 => ?_, fun h0 => ?_⟩⟩
    · show wp_Store_loseUnsafeBytes_2 K (r + 1) (Int32.ofNat i + 1) M
      rw [es]
      rw [e6] at h0
      refine ih (i + 1) M m L (by omega) h a1 a2 (fun n hn => ?_) a4 (fun n hn => ?_)
      · rw [a3 n hn]
        by_cases hni : n = i
        · rw [hni, if_neg (by omega), if_pos (by omega), h0]
        · by_cases hlt : n < i
          · rw [if_pos hlt, if_pos (by omega)]
          · rw [if_neg hlt, if_neg (by omega)]
      · rw [a5 n hn]
        by_cases hni : n = i
        · rw [hni, if_neg (fun q => absurd q.1 (by omega)), if_neg (fun q => q.2 h0)]
        · by_cases hlt : n < i ∧ ¬ mz_i m1 (3, n) 6 = 0
          · rw [if_pos hlt, if_pos ⟨by omega, hlt.2⟩]
          · rw [if_neg hlt, if_neg (fun q => hlt ⟨by omega, q.2⟩)]
    · rw [e6] at h0
      obtain ⟨e1, e2, e3⟩ := h.2.2.1 5 4 1 24 i rfl
      rintro _ rfl _ rfl
      show wp_Store_loseUnsafeBytes_2 K (r + 1) (Int32.ofNat i + 1) _
      rw [es, sub_mod4 e1 e2]
      have h1 := A1.cutl (t := 5) (i := i) (n := (L 5 i).length - (L 5 i).length % 4) h rfl (by omega) rfl
      have h2 := h1.si (o := (3, i)) (k := 6) (v := 0) rfl
      refine ih (i + 1) _ _ _ (by omega) h2 (fun p k hpk => ?_) (fun p k => a2 p k) (fun n hn => ?_) (fun t n ht => ?_) (fun n hn => ?_)
      · rw [mz_i_si, if_neg (fun z => hpk ⟨by rw [z.1], z.2⟩)]
        exact a1 p k hpk
      · rw [mz_i_si]
        by_cases hni : n = i
        · rw [if_pos ⟨by rw [hni], rfl⟩, if_pos (by omega)]
        · rw [if_neg (fun z => hni (congrArg Prod.snd z.1)), a3 n hn]
          by_cases hlt : n < i
          · rw [if_pos hlt, if_pos (by omega)]
          · rw [if_neg hlt, if_neg (by omega)]
      · rw [lu_ne L _ (fun z => ht z.1)]
        exact a4 t n ht
      · by_cases hni : n = i
        · subst hni
          rw [lu_same, if_pos ⟨by omega, h0⟩, e5]
          rfl
        · rw [lu_ne L _ (fun z => hni z.2), a5 n hn]
          by_cases hlt : n < i ∧ ¬ mz_i m1 (3, n) 6 = 0
          · rw [if_pos hlt, if_pos ⟨by omega, hlt.2⟩]
          · rw [if_neg hlt, if_neg (fun q => hlt ⟨by omega, q.2⟩)]
