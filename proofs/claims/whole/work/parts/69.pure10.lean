/-! THE RELATION. EE: what the two memories, seen through lists, have in common; R: two memories that are seen so -/
def ordE (a b : Int32) : Prop := (b = 0 ∧ a = 0) ∨ (b = 1 ∧ a = 255) ∨ (a = b ∧ (b = 251 ∨ b = 252 ∨ b = 253 ∨ b = 254))
def whoE (a b : Int32) : Prop := (b = 0 ∧ a = 0) ∨ (b = 1 ∧ a = 2) ∨ (b = 2 ∧ a = 1)
def namE (a b : Int32) : Prop := (b = 0 ∧ a = 0) ∨ (b = 1 ∧ a = 2) ∨ (b = 2 ∧ a = 1) ∨ (b = 3 ∧ a = 3)
/-- n is a file that is there -/
def filE (m2 : MzM) (n : Nat) : Prop := n < 16 ∧ mz_i m2 (32, 0) n = 1 ∧ mz_i m2 (33, 0) n = 1
/-- n is a directory that is there -/
def dirE (m2 : MzM) (n : Nat) : Prop := n < 16 ∧ mz_i m2 (32, 0) n = 1 ∧ mz_i m2 (33, 0) n = 0
/-- what runs in session x -/
def trE (m1 : MzM) (L1 : MzV) (m2 : MzM) (L2 : MzV) (x : Nat) : Prop :=
  (mz_i m2 (53, 0) x = 0 ∧ mz_r m1 (16, x) 4 = none ∧ mz_i m2 (54, 0) x = -1 ∧ mz_i m2 (55, 0) x = 0 ∧ L1 17 x = [] ∧ mz_i m1 (16, x) 6 = 0) ∨
  (mz_i m2 (53, 0) x = 1 ∧ mz_i m2 (55, 0) x = 0 ∧ L1 17 x = L2 58 x ∧ (∃ p : Nat, p < (L2 58 x).length ∧ mz_i m2 (57, 0) x = Int32.ofNat p ∧ mz_i m1 (16, x) 6 = Int32.ofNat p) ∧ ((mz_r m1 (16, x) 4 = none ∧ mz_i m2 (54, 0) x = -1) ∨ ∃ n : Nat, filE m2 n ∧ mz_r m1 (16, x) 4 = some (3, n) ∧ mz_i m2 (54, 0) x = Int32.ofNat n)) ∨
  (mz_i m2 (53, 0) x = 2 ∧ mz_i m1 (16, x) 2 = mz_i m2 (51, 0) x ∧ (mz_i m2 (51, 0) x = 0 → mz_i m2 (55, 0) x = 0) ∧ L1 17 x = [] ∧ mz_i m1 (16, x) 6 = 0 ∧ ∃ n : Nat, filE m2 n ∧ mz_r m1 (16, x) 4 = some (3, n) ∧ mz_i m2 (54, 0) x = Int32.ofNat n)
def sesE (m1 : MzM) (L1 : MzV) (m2 : MzM) (L2 : MzV) (x : Nat) : Prop :=
  mz_i m1 (8, x) 0 = Int32.ofNat x ∧ L1 9 x = L2 45 x ∧ L1 13 x = L2 43 x ∧ ordE (mz_i m1 (12, x) 4) (mz_i m2 (39, 0) x) ∧
  mz_i m1 (12, x) 5 = mz_i m2 (40, 0) x ∧ mz_i m1 (12, x) 3 = mz_i m2 (42, 0) x ∧ whoE (mz_i m1 (8, x) 7) (mz_i m2 (46, 0) x) ∧ namE (mz_i m1 (8, x) 9) (mz_i m2 (47, 0) x) ∧
  (mz_i m1 (8, x) 10 = mz_i m2 (48, 0) x ∧ (mz_i m2 (48, 0) x = -1 ∨ ∃ n : Nat, 0 < n ∧ n < 16 ∧ mz_i m2 (48, 0) x = Int32.ofNat n)) ∧
  (mz_i m1 (8, x) 11 = mz_i m2 (49, 0) x ∧ ∃ n : Nat, n ≤ 24 ∧ mz_i m2 (49, 0) x = Int32.ofNat n) ∧
  (mz_i m1 (6, 0) x = mz_i m2 (50, 0) x ∧ ((mz_i m2 (46, 0) x = 0 ∧ mz_i m2 (50, 0) x = -1) ∨ (¬ mz_i m2 (46, 0) x = 0 ∧ ∃ n : Nat, dirE m2 n ∧ mz_i m2 (50, 0) x = Int32.ofNat n))) ∧
  (mz_i m1 (8, x) 8 = mz_i m2 (51, 0) x ∧ (mz_i m2 (51, 0) x = 0 ∨ mz_i m2 (51, 0) x = 1)) ∧ mz_i m1 (16, x) 0 = mz_i m2 (52, 0) x ∧ mz_i m1 (16, x) 1 = mz_i m2 (53, 0) x ∧ mz_i m1 (16, x) 3 = mz_i m2 (55, 0) x ∧ trE m1 L1 m2 L2 x
/-- does session x move the file n in way w (1 sends, 2 receives) -/
def mvE (m2 : MzM) (x n : Nat) (w : Int32) : Prop := mz_i m2 (53, 0) x = w ∧ mz_i m2 (54, 0) x = Int32.ofNat n
def rdE (m2 : MzM) (x n : Nat) : Nat := if mz_i m2 (53, 0) x = 1 ∧ mz_i m2 (54, 0) x = Int32.ofNat n then 1 else 0
/-- a byte of a name -/
def nmB (c : Nat) : Prop := (97 ≤ c ∧ c ≤ 122) ∨ (48 ≤ c ∧ c ≤ 57)
/-- a name of one, two or three letters -/
def nmE (v : Int32) : Prop := ∃ a b c : Nat, nmB a ∧ v = Int32.ofNat (a + 128 * b + 16384 * c) ∧ ((b = 0 ∧ c = 0) ∨ (nmB b ∧ (c = 0 ∨ nmB c)))
def kdE (a b : Int32) : Int32 := if a = 0 then 0 else if b = 0 then 1 else 2
def nodeE (m1 : MzM) (L1 : MzV) (m2 : MzM) (L2 : MzV) (n : Nat) : Prop :=
  (mz_i m2 (32, 0) n = 0 ∨ mz_i m2 (32, 0) n = 1) ∧ (mz_i m2 (33, 0) n = 0 ∨ mz_i m2 (33, 0) n = 1) ∧ mz_i m1 (3, n) 1 = kdE (mz_i m2 (32, 0) n) (mz_i m2 (33, 0) n) ∧
  (mz_i m2 (32, 0) n = 1 → ¬ n = 0 → mz_i m1 (3, n) 2 = mz_i m2 (34, 0) n ∧ nmE (mz_i m2 (35, 0) n) ∧ ∃ p : Nat, dirE m2 p ∧ mz_i m2 (34, 0) n = Int32.ofNat p) ∧
  (mz_i m2 (32, 0) n = 1 → mz_i m1 (3, n) 3 = mz_i m2 (35, 0) n) ∧
  (filE m2 n → L1 5 n = L2 38 n ∧ (mz_i m1 (3, n) 6 = 0 → mz_i m2 (37, 0) n = 1 ∨ (L2 38 n).length % 4 = 0) ∧ (¬ mz_i m1 (3, n) 6 = 0 → mz_i m2 (37, 0) n = 0))
/-- who moves what, as the nodes keep it; what is received is not safe -/
def busE (m1 m2 : MzM) : Prop := ∀ n : Nat, n < 16 → mz_i m1 (3, n) 4 = Int32.ofNat (rdE m2 0 n + rdE m2 1 n) ∧ (mz_i m1 (3, n) 5 = 0 ∨ mz_i m1 (3, n) 5 = 1) ∧ (mz_i m1 (3, n) 5 = 1 ↔ (mvE m2 0 n 2 ∨ mvE m2 1 n 2)) ∧ (mz_i m1 (3, n) 5 = 1 → ¬ mz_i m1 (3, n) 6 = 0)
/-- a file that is received is moved by no other session -/
def exE (m2 : MzM) : Prop := ∀ n : Nat, n < 16 → ¬ (mvE m2 0 n 2 ∧ (mvE m2 1 n 1 ∨ mvE m2 1 n 2)) ∧ ¬ (mvE m2 1 n 2 ∧ mvE m2 0 n 1)
def rootE (m1 m2 : MzM) : Prop := dirE m2 0 ∧ mz_i m2 (34, 0) 0 = -1 ∧ mz_i m1 (3, 0) 2 = 0
def treeE (m2 : MzM) : Prop := ∃ d : Nat → Nat, ∀ n p : Nat, n < 16 → ¬ n = 0 → mz_i m2 (32, 0) n = 1 → mz_i m2 (34, 0) n = Int32.ofNat p → p < 16 → d p < d n
def copE (m1 m2 : MzM) : Prop :=
  (mz_i m1 (22, 0) 2 = mz_i m2 (30, 0) 38 ∧ (mz_i m2 (30, 0) 38 = 0 ∨ mz_i m2 (30, 0) 38 = 1)) ∧ (mz_i m2 (30, 0) 38 = 1 →
    mz_i m1 (22, 0) 3 = mz_i m2 (30, 0) 39 ∧ (∃ k : Nat, k < 3 ∧ mz_r m1 (22, 0) 1 = some (20, k) ∧ mz_i m2 (30, 0) 40 = Int32.ofNat k) ∧
    (mz_i m1 (22, 0) 4 = mz_i m2 (30, 0) 41 ∧ nmE (mz_i m2 (30, 0) 41)) ∧ (mz_i m1 (22, 0) 5 = mz_i m2 (30, 0) 42 ∧ ∃ n : Nat, n ≤ 9 ∧ mz_i m2 (30, 0) 42 = Int32.ofNat n) ∧
    ((mz_i m1 (22, 0) 7 = 0 ∧ mz_i m1 (22, 0) 6 = mz_i m2 (30, 0) 43 ∧ (mz_i m2 (30, 0) 43 = 0 ∨ mz_i m2 (30, 0) 43 = 1 ∨ mz_i m2 (30, 0) 43 = 2 ∨ mz_i m2 (30, 0) 43 = 3)) ∨ (mz_i m1 (22, 0) 7 = 1 ∧ mz_i m2 (30, 0) 43 = 5 ∧ mz_i m2 (30, 0) 42 = 0)) ∧
    (mz_i m2 (30, 0) 43 = 2 → mz_i m2 (30, 0) 39 = 0 → mz_i m1 (22, 0) 8 = mz_i m2 (30, 0) 44))
def wdT : List Int32 := [0, 179626706, 168847827, 171271380, 164882384, 177629253, 1321924, 1108932, 141634256, 175271237, 168847830, 173107668, 173107794, 175450066, 137635909, 164833748, 137406418, 143746629, 1271236, 1353412, 173253458, 173255247]
def wdE (m2 : MzM) : Prop := ∀ v : Nat, v < 22 → mz_i m2 (31, 0) v = wdT.getD v 0
def EE (m1 : MzM) (L1 : MzV) (m2 : MzM) (L2 : MzV) : Prop :=
  sesE m1 L1 m2 L2 0 ∧ sesE m1 L1 m2 L2 1 ∧ (∀ n : Nat, n < 16 → nodeE m1 L1 m2 L2 n) ∧ (busE m1 m2 ∧ exE m2) ∧ rootE m1 m2 ∧ treeE m2 ∧ copE m1 m2 ∧ wdE m2 ∧ (∀ k : Nat, k < 3 → L1 21 k = L2 60 k)
def RR (M1 M2 : MzM) : Prop := ∃ (m1 : MzM) (L1 : MzV) (m2 : MzM) (L2 : MzV), A1 M1 m1 L1 ∧ A2 M2 m2 L2 ∧ EE m1 L1 m2 L2
theorem EE.ses {m1 m2 : MzM} {L1 L2 : MzV} (h : EE m1 L1 m2 L2) {x : Nat} (hx : x < 2) : sesE m1 L1 m2 L2 x := by
  have hx' : x = 0 ∨ x = 1 := by omega
  rcases hx' with rfl | rfl
  · exact h.1
  · exact h.2.1
theorem EE.thr {m1 m2 : MzM} {L1 L2 : MzV} (h : EE m1 L1 m2 L2) : EE m1 L1 (mz_si m2 (30, 0) 1 0) L2 := h
theorem rr_clr : clrThrown RR := by
  rintro M1 M2 ⟨m1, L1, m2, L2, h1, h2, hE⟩
  exact ⟨m1, L1, _, L2, h1, h2.si (t := 30) rfl, hE.thr⟩
theorem rr_len9 {M1 M2 : MzM} (h : RR M1 M2) : ∀ x, x < 2 → mz_i M1 (9, x) 2 = mz_i M2 (44, 0) x := by
  obtain ⟨m1, L1, m2, L2, h1, h2, hE⟩ := h
  intro x hx
  obtain ⟨f, hf, f1, f2, f3, f4⟩ := h1.2.2.2 x
  obtain ⟨e1, e2, e3⟩ := h2.2 45 44 200 2 x rfl hx
  rw [f2, e1, (hE.ses hx).2.1]
theorem rr_waiting : sim_waiting RR := sim_waiting_of rr_clr (fun _ _ h => rr_len9 h)
theorem rr_current : sim_current RR := by
  refine sim_current_of rr_clr (fun M1 M2 h x hx => ?_)
  obtain ⟨m1, L1, m2, L2, h1, h2, hE⟩ := h
  rw [h1.1 (6, 0) x rfl, h2.1 50 x rfl]
  exact (hE.ses hx).2.2.2.2.2.2.2.2.2.2.1.1
theorem rr_running : sim_running RR := by
  refine sim_running_of rr_clr (fun M1 M2 h x hx => ?_)
  obtain ⟨m1, L1, m2, L2, h1, h2, hE⟩ := h
  rw [h1.1 (16, x) 1 rfl, h2.1 53 x rfl]
  exact (hE.ses hx).2.2.2.2.2.2.2.2.2.2.2.2.2.1
theorem rr_shelf : sim_shelf RR := by
  refine sim_shelf_of rr_clr (fun M1 M2 h k hk => ?_) (fun M1 M2 h k j hk hj => ?_)
  · obtain ⟨m1, L1, m2, L2, h1, h2, hE⟩ := h
    obtain ⟨e1, e2, e3⟩ := h1.2.2.1 21 20 1 24 k rfl
    obtain ⟨d1, d2, d3⟩ := h2.2 60 59 24 3 k rfl hk
    have hs := hE.2.2.2.2.2.2.2.2 k hk
    refine ⟨by rw [e1, d1, hs], ?_⟩
    rw [e1, itn (by omega)]
    omega
  · obtain ⟨m1, L1, m2, L2, h1, h2, hE⟩ := h
    obtain ⟨e1, e2, e3⟩ := h1.2.2.1 21 20 1 24 k rfl
    obtain ⟨d1, d2, d3⟩ := h2.2 60 59 24 3 k rfl hk
    have hs := hE.2.2.2.2.2.2.2.2 k hk
    rw [e1, itn (by omega)] at hj
    have q1 := e3 j (by omega)
    have q2 := d3 j (by rw [← hs]; omega)
    rw [hs, q2] at q1
    exact (Option.some.inj q1).symm
theorem kd0 {m1 m2 : MzM} {L1 L2 : MzV} {n : Nat} (h : nodeE m1 L1 m2 L2 n) : mz_i m1 (3, n) 1 = 0 ↔ mz_i m2 (32, 0) n = 0 := by
  obtain ⟨a, b, c, _⟩ := h
  rw [c]
  unfold kdE
  rcases a with a | a <;> rcases b with b | b <;> rw [a, b] <;> decide
theorem kd1 {m1 m2 : MzM} {L1 L2 : MzV} {n : Nat} (h : nodeE m1 L1 m2 L2 n) : mz_i m1 (3, n) 1 = 1 ↔ (mz_i m2 (32, 0) n = 1 ∧ mz_i m2 (33, 0) n = 0) := by
  obtain ⟨a, b, c, _⟩ := h
  rw [c]
  unfold kdE
  rcases a with a | a <;> rcases b with b | b <;> rw [a, b] <;> decide
theorem kd2 {m1 m2 : MzM} {L1 L2 : MzV} {n : Nat} (h : nodeE m1 L1 m2 L2 n) : mz_i m1 (3, n) 1 = 2 ↔ (mz_i m2 (32, 0) n = 1 ∧ mz_i m2 (33, 0) n = 1) := by
  obtain ⟨a, b, c, _⟩ := h
  rw [c]
  unfold kdE
  rcases a with a | a <;> rcases b with b | b <;> rw [a, b] <;> decide
theorem z01 {a : Int32} (h : a = 0 ∨ a = 1) : ¬ a = 0 ↔ a = 1 := by
  rcases h with rfl | rfl <;> decide
theorem rr_content : sim_content RR := by
  refine sim_content_of rr_clr (fun M1 M2 h n hn => ?_) (fun M1 M2 h n hn hk => ?_) (fun M1 M2 h n j hn hk hj => ?_)
  · obtain ⟨m1, L1, m2, L2, h1, h2, hE⟩ := h
    have hN := hE.2.2.1 n hn
    rw [h1.1 (3, n) 1 rfl, h2.1 32 n rfl, h2.1 33 n rfl, kd2 hN, z01 hN.1, z01 hN.2.1]
  · obtain ⟨m1, L1, m2, L2, h1, h2, hE⟩ := h
    have hN := hE.2.2.1 n hn
    rw [h1.1 (3, n) 1 rfl, kd2 hN] at hk
    obtain ⟨e1, e2, e3⟩ := h1.2.2.1 5 4 1 24 n rfl
    obtain ⟨d1, d2, d3⟩ := h2.2 38 36 24 16 n rfl hn
    have hs := (hN.2.2.2.2.2 ⟨hn, hk⟩).1
    refine ⟨by rw [e1, d1, hs], ?_⟩
    rw [e1, itn (by omega)]
    omega
  · obtain ⟨m1, L1, m2, L2, h1, h2, hE⟩ := h
    have hN := hE.2.2.1 n hn
    rw [h1.1 (3, n) 1 rfl, kd2 hN] at hk
    obtain ⟨e1, e2, e3⟩ := h1.2.2.1 5 4 1 24 n rfl
    obtain ⟨d1, d2, d3⟩ := h2.2 38 36 24 16 n rfl hn
    have hs := (hN.2.2.2.2.2 ⟨hn, hk⟩).1
    rw [e1, itn (by omega)] at hj
    have q1 := e3 j (by omega)
    have q2 := d3 j (by rw [← hs]; omega)
    rw [hs, q2] at q1
    exact (Option.some.inj q1).symm
theorem rr_node : sim_node RR := by
  refine sim_node_of rr_clr (fun M1 M2 h n hn => ?_) (fun M1 M2 h n hn hk => ?_) (fun M1 M2 h n hn h0 hk => ?_) (fun M1 M2 h => ?_) (fun M1 M2 h n hn hk => ?_) (fun M1 M2 h n hn hk => ?_)
  · obtain ⟨m1, L1, m2, L2, h1, h2, hE⟩ := h
    have hN := hE.2.2.1 n hn
    rw [h1.1 (3, n) 1 rfl, h2.1 32 n rfl, kd0 hN]
  · obtain ⟨m1, L1, m2, L2, h1, h2, hE⟩ := h
    have hN := hE.2.2.1 n hn
    rw [h1.1 (3, n) 1 rfl, kd0 hN, z01 hN.1] at hk
    rw [h1.1 (3, n) 1 rfl, h2.1 33 n rfl, kd2 hN, z01 hN.2.1]
    exact ⟨fun z => z.2, fun z => ⟨hk, z⟩⟩
  · obtain ⟨m1, L1, m2, L2, h1, h2, hE⟩ := h
    have hN := hE.2.2.1 n hn
    rw [h1.1 (3, n) 1 rfl, kd0 hN, z01 hN.1] at hk
    obtain ⟨q1, q2, p, q3, q4⟩ := hN.2.2.2.1 hk h0
    rw [h1.1 (3, n) 2 rfl, h2.1 34 n rfl]
    refine ⟨q1, ?_⟩
    rw [q4]
    have q5 := q3.1
    exact (ile (m := 0) rfl (itn (n := p) (by omega))).mpr (by omega)
  · obtain ⟨m1, L1, m2, L2, h1, h2, hE⟩ := h
    rw [h2.1 34 0 rfl, hE.2.2.2.2.1.2.1]
    decide
  · obtain ⟨m1, L1, m2, L2, h1, h2, hE⟩ := h
    have hN := hE.2.2.1 n hn
    rw [h1.1 (3, n) 1 rfl, kd2 hN] at hk
    obtain ⟨e1, e2, e3⟩ := h1.2.2.1 5 4 1 24 n rfl
    obtain ⟨d1, d2, d3⟩ := h2.2 38 36 24 16 n rfl hn
    rw [e1, d1, (hN.2.2.2.2.2 ⟨hn, hk⟩).1]
  · obtain ⟨m1, L1, m2, L2, h1, h2, hE⟩ := h
    have hN := hE.2.2.1 n hn
    rw [h1.1 (3, n) 1 rfl, kd0 hN, z01 hN.1] at hk
    rw [h1.1 (3, n) 3 rfl, h2.1 35 n rfl]
    exact hN.2.2.2.2.1 hk
