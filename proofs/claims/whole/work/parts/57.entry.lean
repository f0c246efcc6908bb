def mzB1 (i : MzL) (q : Nat) : MzB := mz_nb (fun _ => 0, fun _ => 0, []) i q 0
theorem mzB1_wf (i : MzL) (q : Nat) : mzWf (mzB1 i q) (mz_nm mzM0 i) := mzWf.nb (B := (fun _ => 0, fun _ => 0, [])) (M := mzM0) (fun a k l h => by cases h)
theorem mzB1_ad (i : MzL) (q : Nat) : mz_ad (mzB1 i q) i = q := by simp [mzB1, mz_ad_nb]
theorem mzB1_dm (i : MzL) (q : Nat) : mz_dm (mzB1 i q) = [i] := rfl
section LqEntry
variable {G : MzG} {b L : Nat} {xs : Nat → Int32} {p : Program} {l : Launch} {e : Env} {s : State} {m : MethodId} {below : List Frame} {meth : Method} {c : Code} {H : Heap} {locs : List Loc} {cells slots : Nat} {ls : Array Slot} {pc : Nat} {rest : List Value} {Q : State → Prop}
set_option maxHeartbeats 4000000 in
theorem lq_new {i : MzL} {ci idx N : Nat} {C : String} {T : u_T} {ty : Nat → FieldType} {ws : va_W} {tys : List (ClassId × FieldType)} (hC0 : lw_At p s m meth c b L xs) (hC : mzCl ci C T N ty) (hd : decode code pc = .ok (.new idx, 3)) (hw : Cond.classLink R_law idx C ∈ mzAll) (hin : Cond.instantiable C N ∈ mzAll) (hini : Cond.initialized C ∈ mzAll) (hdv : ∀ k, k < N → defaultValue (ty k) = if mzIsR ci k = true then .null else .int 0) (hkd : mzKd i = .inl ci) (hK : va_K G.1 vwCl tys s) (hP : va_P G.1 vwCl ws H) (hD : va_D (lqA s) ws) (hS : va_S (lqA s) s.heap H locs) (h1 : cells + 1 ≤ 601024) (h2 : slots + N ≤ 7293034)
    (kk : ∀ (q : Nat) (H1 : Heap), va_P G.1 vwCl (ws ++ mz_w (mzB1 i q) (mz_nm mzM0 i)) H1 → va_D (lqA s) (ws ++ mz_w (mzB1 i q) (mz_nm mzM0 i)) → va_S (lqA s) s.heap H1 locs → W p l e room_1 s m #[Value.ref b] below meth c H1 locs (cells + 1) (slots + N) Q (F0 m (pc + 3) ls (.ref q :: rest))) : W p l e room_1 s m #[Value.ref b] below meth c H locs cells slots Q (F0 m pc ls rest) := by
  have ht := lq_all hC0
  refine va_new (D := G.1) (cl := vwCl) (ci := ci) (fs := mz_fs (fun _ => 0, fun _ => 0, []) (mz_nm mzM0 i) i ci) (C := C) (T := T) (N := N) (Ts := mzAll) (tys := tys) (ws := ws) (A := lqA s) hC0.1 hC0.2.1 ht hC.2.1 ty hC.2.2.1 hC0.2.2.2.2.1 (ht _ hw) (ht _ hin) (ht _ hini) hK hP hD hS (fun q hq => hq) hC.1 (fun j hj => ?_) h1 h2 hd (fun q H1 hP1 hD1 hS1 => ?_)
  · rw [hdv j hj, vp_V, List.getD_eq_getElem?_getD, mz_fs_at (by rw [hC.2.2.2.2.1]; exact hj)]
    simp only [mz_fv, mz_r_nm, mz_i_nm, if_true, va_rf, mz_ar, Option.map_none, Option.getD_some]
  · have e1 : [(q, .inr (ci, mz_fs (fun _ => 0, fun _ => 0, []) (mz_nm mzM0 i) i ci))] = mz_w (mzB1 i q) (mz_nm mzM0 i) := by
      show _ = [(mz_ad (mzB1 i q) i, mz_ce (mzB1 i q) (mz_nm mzM0 i) i)]
      rw [mzB1_ad, mz_ce_o hkd, mz_fs_eq (B := (fun _ => 0, fun _ => 0, [])) (B' := mzB1 i q) (M := mz_nm mzM0 i) rfl (fun b => by simp [mz_r_nm, mz_ar])]
    rw [e1] at hP1 hD1
    exact kk q H1 hP1 hD1 hS1
set_option maxHeartbeats 4000000 in
theorem lq_init {B : MzB} {M : MzM} {mm' : MzT} {idx d m1 m2 : Nat} {i : MzL} {wx : va_W} {P : MzB → MzM → Prop} (hC0 : lw_At p s m meth c b L xs) (hl : ls.size = 7) (hd : decode code pc = .ok (.invokespecial idx, 3)) (hcs : mzCall mm' mm' 0) (hw : Cond.methodLink R_law idx mm'.1 ∈ mzAll) (hin : Cond.instanceMethod mm'.1 ∈ mzAll) (hnm : mm'.1.name = "<init>") (hre : mm'.2.2.2 = none) (hst : (rest.map fun v => v.category).sum ≤ 8) (hdd : d ≤ 10) (h1 : cells + m1 ≤ 601024) (h2 : slots + m2 ≤ 7293034) (hI : mzI G B M (lqA s) s H locs) (hPx : va_P G.1 vwCl wx H) (hx : ∀ (k : Nat) (x : Nat × va_E), wx[k]? = some x → ∀ j ∈ mz_dm B, x.1 ≠ mz_ad B j)
    (h : MzC G B d mm' [.ref (mz_ad B i)] M (m1, m2) (fun r B' M' => r = .inl none ∧ P B' M'))
    (kk : ∀ (B' : MzB) (M' : MzM) (H' : Heap) (locs' : List Loc), P B' M' → mzI G B' M' (lqA s) s H' locs' → va_P G.1 vwCl wx H' → (∀ (k : Nat) (x : Nat × va_E), wx[k]? = some x → ∀ j ∈ mz_dm B', x.1 ≠ mz_ad B' j) → W p l e room_1 s m #[Value.ref b] below meth c H' locs' (cells + m1) (slots + m2) Q (F0 m (pc + 3) ls rest)) : W p l e room_1 s m #[Value.ref b] below meth c H locs cells slots Q (F0 m pc ls (.ref (mz_ad B i) :: rest)) := by
  have ht := lq_all hC0
  have hr := va_runI (p := p) (l := l) (e := e) (R := room_1) (s := s) (m := m) (args := #[Value.ref b]) (below := below) (meth := meth) (c := c) (H := H) (locs := locs) (cells := cells) (slots := slots) (g := F0 m pc ls (.ref (mz_ad B i) :: rest)) (y := mm'.1) (bytes := mm'.2.1) (maxL := mm'.2.2.1) (ws := mzWs mm') (rm := mzRm d m1 m2) (As := []) (rest := rest) (nL := 7) (Ts := mzAll) (own := R_law) (n := 0) ⟨hC0.1, hC0.2.1, hC0.2.2.2.1, hC0.2.2.2.2.1, ht⟩ (h l H.size) ⟨callB_of 0 ht (lq_good hcs.2.1) (by rw [mzWs, hre]) rfl rfl (ht _ hcs.1) (ht _ hw) hcs.2.2.1 ⟨show d + 1 ≤ 15 by omega, show 8 + (mm'.2.2.1 + 11) + 46 * d ≤ 596 by have := hcs.2.2.2; omega⟩, hnm, ht _ hin⟩ ⟨mz_pre_blind, fun U hU hW => mz_preOf hI hU hW⟩ rfl rfl hl rfl (lv_room hst) hd ⟨h1, h2⟩
  intro T hT X
  obtain ⟨v, st₀, t, T', L', e0, X', hL, e1, e2, ⟨⟨r, B', M', ⟨rfl, hPB⟩, hoc, hP', hK', hD'⟩, hz, hk⟩, stp⟩ := hr T hT X
  have hoc : Outcome.returned v = .returned none := hoc
  cases hoc
  rw [e0] at hz hk
  have hal : s.vm.Alike t.vm := by rw [← e2]; exact X'.warmed.alike
  have hAA : ∀ q, va_A (mz_w B M) H.size q → lqA s q := by
    intro q hq
    rcases hq with ⟨k, ee, hq⟩ | hq
    · exact hI.2.2.1.2 k (q, ee) hq
    · exact Nat.le_trans hI.2.2.2.1.1 hq
  have hno : ∀ (k : Nat) (x : Nat × va_E), wx[k]? = some x → ¬ va_A (mz_w B M) H.size x.1 := by
    intro k x hkx hq
    rcases hq with ⟨k', ee, hq⟩ | hq
    · obtain ⟨j, hj, he⟩ := mz_w_ad hq
      exact hx k x hkx j hj he.symm
    · exact Nat.lt_irrefl _ (Nat.lt_of_lt_of_le (hPx k x hkx).lt hq)
  have hI' : mzI G B' M' (lqA s) s t.heap (locs ++ L') := by
    refine ⟨va_K.moved hal.symm hK', hP', hD'.weaken (fun k q _ h9 => hAA q.1 h9), ⟨Nat.le_trans hI.2.2.2.1.1 hz, fun q g1 g2 => ?_, fun q hq => ?_⟩, hI.2.2.2.2.1, hI.2.2.2.2.2⟩
    · rw [hk q (Nat.lt_of_lt_of_le g1 hI.2.2.2.1.1) (fun z => g2 (hAA q z))]
      exact hI.2.2.2.1.2.1 q g1 g2
    · rcases List.mem_append.mp hq with h9 | h9
      · exact hI.2.2.2.1.2.2 q h9
      · exact hAA _ (hL q h9)
  have hPx' : va_P G.1 vwCl wx t.heap := hPx.kept (fun k x hkx => hk x.1 (hPx k x hkx).lt (hno k x hkx))
  have hx' : ∀ (k : Nat) (x : Nat × va_E), wx[k]? = some x → ∀ j ∈ mz_dm B', x.1 ≠ mz_ad B' j := by
    intro k x hkx j hj he
    obtain ⟨k', -, hk'⟩ := mz_pl M' hj
    exact hno k x hkx (by rw [he]; exact hD'.2 k' _ hk')
  rw [← e1] at hI' hPx'
  obtain ⟨t2, a1, b1⟩ := kk B' M' T'.heap (locs ++ L') hPB hI' hPx' hx' T' rfl X'
  exact ⟨t2, stp t2 a1, b1⟩
end LqEntry
