def mzM0 : MzM := (fun _ _ => 0, fun _ _ => none)
def lnkChk (M : MzM) (g : Bool) : Bool := (List.range 61).all fun t => !(decide (decide (30 ≤ t) = g)) || (List.range (mzCnt t)).all fun n => (List.range 40).all fun k => match mzLk (t, n) k with
  | none => true
  | some j => decide (mz_r M (t, n) k = some j)
theorem mzCnt_lt {t n : Nat} (h : n < mzCnt t) : t < 61 := by
  apply Nat.lt_of_not_le
  intro hlt
  have h0 : mzCnt t = 0 := by
    unfold mzCnt
    split <;> first | omega | rfl
  omega
theorem mzLk_lt {i : MzL} {k : Nat} {j : MzL} (h : mzLk i k = some j) : k < 40 := by
  unfold mzLk at h
  split at h <;> first | omega | (split at h <;> first | omega | cases h) | cases h
theorem lnk_of {M : MzM} {g : Bool} (h : lnkChk M g = true) : mzLnk g M := by
  intro i k j hg hk hn
  obtain ⟨t, n⟩ := i
  have h1 := List.all_eq_true.mp h t (List.mem_range.mpr (mzCnt_lt hn))
  simp only [Bool.or_eq_true, Bool.not_eq_true', decide_eq_false_iff_not] at h1
  rcases h1 with h1 | h1
  · exact absurd hg h1
  · have h2 := List.all_eq_true.mp (List.all_eq_true.mp h1 n (List.mem_range.mpr hn)) k (List.mem_range.mpr (mzLk_lt hk))
    rw [hk] at h2
    exact of_decide_eq_true h2
def liveChk (D : List MzL) (g : Bool) : Bool := (List.range 61).all fun t => !(decide (decide (30 ≤ t) = g)) || (List.range (mzCnt t)).all fun n => decide ((t, n) ∈ D)
theorem live_of {B : MzB} {D : List MzL} (hD : mz_dm B = D) {g : Bool} (h : liveChk D g = true) : mzLive g B := by
  intro t n hg hn
  have h1 := List.all_eq_true.mp h t (List.mem_range.mpr (mzCnt_lt hn))
  simp only [Bool.or_eq_true, Bool.not_eq_true', decide_eq_false_iff_not] at h1
  rcases h1 with h1 | h1
  · exact absurd hg h1
  · rw [hD]
    exact of_decide_eq_true (List.all_eq_true.mp h1 n (List.mem_range.mpr hn))
def mzMoL : List MzL := [(30, 0)] ++ [(31, 0), (32, 0), (33, 0), (34, 0), (35, 0), (36, 0), (37, 0), (38, 0), (39, 0), (40, 0), (41, 0), (42, 0), (43, 0), (44, 0), (45, 0), (46, 0), (47, 0), (48, 0), (49, 0), (50, 0), (51, 0), (52, 0), (53, 0), (54, 0), (55, 0), (56, 0), (57, 0), (58, 0), (59, 0), (60, 0)]
def mzA1 : MzM := fm_PL_init (mz_nm mzM0 (0, 0))
def mzA2 : MzM := fm_MoA (mz_nm mzM0 (30, 0))
theorem live_PL {B : MzB} (h : mz_dm B = mzPLa ++ mzPLb) : mzLive false B := live_of h (by decide +kernel)
theorem live_Mo {B : MzB} (h : mz_dm B = mzMoL) : mzLive true B := live_of h (by decide +kernel)
theorem lnk_A1 : mzLnk false mzA1 := lnk_of (by decide +kernel)
theorem lnk_A2 : mzLnk true mzA2 := lnk_of (by decide +kernel)
theorem tc_Mo_init {G : MzG} {B : MzB} {d : Nat} {K : MzM → Prop} {Q : MzR → MzB → MzM → Prop} (hw : mzWf B (mz_nm mzM0 (30, 0))) (hm : mz_dm B = [(30, 0)]) (hk : wp_Mo_beginSession 0 mzA2 (fun M1 => wp_Mo_beginSession 1 M1 K)) (h : ∀ (B9 : MzB) (M9 : MzM), mz_dm B9 = mzMoL → mz_ad B9 (30, 0) = mz_ad B (30, 0) → mzLnk true M9 → K M9 → Q (.inl none) B9 M9) : MzC G B (d + 3) mm_Mo_init [.ref (mz_ad B (30, 0))] (mz_nm mzM0 (30, 0)) (30, 1263) Q := by
  refine MzC.of rfl (Nat.le_of_ble_eq_true rfl) (show MzS G B (d + 3) mm_Mo_init (mz_nm mzM0 (30, 0)) (30, 1263) Q 0 [(0, .ref (mz_ad B (30, 0)))] [] from ?_)
  refine tc_MoA (d := d + 2) hw hm (by decide) (by decide) (by decide) (by decide) (by decide) (by decide) (by decide) (by decide) (by decide) (by decide) (by decide) (by decide) (by decide) (by decide) (by decide) (by decide) (by decide) (by decide) (by decide) (by decide) (by decide) (by decide) (by decide) (by decide) (by decide) (by decide) (by decide) (by decide) (by decide) (by decide) (by decide) ?_
  intro B9 hD had hw9
  have hF : mzLive true B9 := live_Mo hD
  have ha : mz_ad B9 (30, 0) = mz_ad B (30, 0) := had (30, 0) (by rw [hm]; exact List.mem_cons_self)
  refine mz_aload_n d_Mo_init_368 rfl (mz_iconst 0 d_Mo_init_369 (by decide) (mz_callV (As := [.int 0]) (st := []) (hF 30 0 rfl (by decide)) rfl (mzClOf cl_10) 0 0 d_Mo_init_370 cs_Mo_beginSession wl_Mo_122 wi_Mo_beginSession wse_Mo_beginSession (Nat.le_of_ble_eq_true rfl) (Nat.zero_le _) (Nat.zero_le _) (MzC.mono (tm_Mo_beginSession (d := d) hF lnk_A2 hk) (fun r B1 M1 hq => ?_))))
  obtain ⟨rfl, hL1, rfl, hq⟩ := hq
  refine ⟨none, rfl, mz_aload_n d_Mo_init_373 rfl (mz_iconst 1 d_Mo_init_374 (by decide) (mz_callV (As := [.int 1]) (st := []) (hF 30 0 rfl (by decide)) rfl (mzClOf cl_10) 0 0 d_Mo_init_375 cs_Mo_beginSession wl_Mo_122 wi_Mo_beginSession wse_Mo_beginSession (Nat.le_of_ble_eq_true rfl) (Nat.zero_le _) (Nat.zero_le _) (MzC.mono (tm_Mo_beginSession (d := d) hF hL1 hq) (fun r B2 M2 hq2 => ?_))))⟩
  obtain ⟨rfl, hL2, rfl, hq2⟩ := hq2
  exact ⟨none, rfl, mz_vret d_Mo_init_378 rfl (h _ M2 hD ha hL2 hq2)⟩
