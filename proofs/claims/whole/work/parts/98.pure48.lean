theorem drB_congr {m m' : MzM} (e32 : mz_i m' (32, 0) = mz_i m (32, 0)) (e33 : mz_i m' (33, 0) = mz_i m (33, 0)) (a : Int32) : drB m' a = drB m a := by
  unfold drB
  rw [e32, e33]
theorem chd_congr {m m' : MzM} (e32 : mz_i m' (32, 0) = mz_i m (32, 0)) (e34 : mz_i m' (34, 0) = mz_i m (34, 0)) (e35 : mz_i m' (35, 0) = mz_i m (35, 0)) (a s : Int32) : chd m' a s = chd m a s := by
  unfold chd
  rw [e32, e34, e35]
theorem upF_congr {m m' : MzM} (e34 : mz_i m' (34, 0) = mz_i m (34, 0)) (a : Int32) : upF m' a = upF m a := by
  unfold upF
  rw [e34]
theorem wlk_congr {m m' : MzM} (e32 : mz_i m' (32, 0) = mz_i m (32, 0)) (e33 : mz_i m' (33, 0) = mz_i m (33, 0)) (e34 : mz_i m' (34, 0) = mz_i m (34, 0)) (e35 : mz_i m' (35, 0) = mz_i m (35, 0)) : ∀ (ss : List Int32) (a : Int32), wlk m' a ss = wlk m a ss
  | [], _ => rfl
  | s :: ss, a => by
    show (if drB m' a = true then wlk m' (if s = 0 then upF m' a else chd m' a s) ss else -1) = (if drB m a = true then wlk m (if s = 0 then upF m a else chd m a s) ss else -1)
    rw [drB_congr e32 e33, upF_congr e34, chd_congr e32 e34 e35, wlk_congr e32 e33 e34 e35 ss]
theorem plc_congr {m m' : MzM} (e32 : mz_i m' (32, 0) = mz_i m (32, 0)) (e33 : mz_i m' (33, 0) = mz_i m (33, 0)) (e34 : mz_i m' (34, 0) = mz_i m (34, 0)) (e35 : mz_i m' (35, 0) = mz_i m (35, 0)) : ∀ (ss : List Int32) (a : Int32), plc m' a ss = plc m a ss
  | [], _ => rfl
  | s :: ss, a => by
    show (if drB m' a = true then (if ss = [] then (if ¬ s = 0 ∧ chd m' a s = -1 then a else -1) else plc m' (if s = 0 then upF m' a else chd m' a s) ss) else -1) = (if drB m a = true then (if ss = [] then (if ¬ s = 0 ∧ chd m a s = -1 then a else -1) else plc m (if s = 0 then upF m a else chd m a s) ss) else -1)
    rw [drB_congr e32 e33, upF_congr e34, chd_congr e32 e34 e35, plc_congr e32 e33 e34 e35 ss]
theorem wlk_ex {m1 m2 : MzM} {L1 L2 : MzV} (hN : ∀ n : Nat, n < 16 → nodeE m1 L1 m2 L2 n) (hr : rootE m1 m2) : ∀ (ss : List Int32) (a : Int32), exI m2 a → exI m2 (wlk m2 a ss)
  | [], _, h => h
  | s :: ss, a, h => by
    show exI m2 (if drB m2 a = true then wlk m2 (if s = 0 then upF m2 a else chd m2 a s) ss else -1)
    by_cases hd : drB m2 a = true
    · rw [if_pos hd]
      refine wlk_ex hN hr ss _ ?_
      by_cases hs : s = 0
      · rw [if_pos hs]
        obtain ⟨n, hn, e⟩ := up_ex hN hr hd
        exact Or.inr ⟨n, hn.1, hn.2.1, e⟩
      · rw [if_neg hs]
        exact chd_ex hN a s
    · rw [if_neg hd]
      exact Or.inl rfl
theorem plc_dir (m2 : MzM) : ∀ (ss : List Int32) (a : Int32), plc m2 a ss = -1 ∨ ∃ n : Nat, dirE m2 n ∧ plc m2 a ss = Int32.ofNat n
  | [], _ => Or.inl rfl
  | s :: ss, a => by
    have e : plc m2 a (s :: ss) = (if drB m2 a = true then (if ss = [] then (if ¬ s = 0 ∧ chd m2 a s = -1 then a else -1) else plc m2 (if s = 0 then upF m2 a else chd m2 a s) ss) else -1) := rfl
    rw [e]
    by_cases hd : drB m2 a = true
    · rw [if_pos hd]
      by_cases hs : ss = []
      · rw [if_pos hs]
        by_cases hc : ¬ s = 0 ∧ chd m2 a s = -1
        · rw [if_pos hc]
          exact Or.inr (drB_iff.mp hd)
        · rw [if_neg hc]
          exact Or.inl rfl
      · rw [if_neg hs]
        exact plc_dir m2 ss _
    · rw [if_neg hd]
      exact Or.inl rfl
theorem plc_tgt {m2 : MzM} {a : Int32} {ss : List Int32} (h : ¬ plc m2 a ss = -1) : wlk m2 a ss = -1 ∧ ¬ lsI ss = 0 := by
  by_cases hs : ss = []
  · rw [hs] at h
    exact absurd rfl h
  · rw [plc_class m2 ss a hs] at h
    by_cases hc : wlk m2 a ss = -1 ∧ ¬ ss.getLastD 0 = 0 ∧ drB m2 (wlk m2 a ss.dropLast) = true
    · exact ⟨hc.1, hc.2.1⟩
    · rw [if_neg hc] at h
      exact absurd rfl h
theorem sg_nm {l : List Int32} : ∀ (f p : Nat) (ss : List Int32), sg l f p = some ss → lsI ss = 0 ∨ nmE (lsI ss) := by
  intro f
  induction f with
  | zero =>
    intro p ss h
    cases h
  | succ f ih =>
    intro p ss h
    obtain ⟨f', ef, hpq, hcase⟩ := sg_step h
    have ef' : f' = f := by omega
    subst ef'
    rcases hcase with ⟨_, c2⟩ | ⟨_, _, ss', c3, c4, c5⟩
    · rw [c2]
      show sv l p = 0 ∨ nmE (sv l p)
      unfold sv
      by_cases h46 : chv l p = 46
      · rw [if_pos h46]
        exact Or.inl rfl
      · rw [if_neg h46]
        exact Or.inr (se_nm hpq h46).1
    · have w3 : lsI ss = lsI ss' := by
        rw [c3]
        unfold lsI
        cases ss' with
        | nil => exact absurd rfl c4
        | cons s1 s2 => simp [List.getLastD]
      rw [w3]
      exact ih _ ss' c5
theorem pth_nm {l : List Int32} {b : Nat} {ss : List Int32} (h : pth l b = some ss) : lsI ss = 0 ∨ nmE (lsI ss) := by
  unfold pth at h
  split at h
  · rw [← Option.some.inj h]
    exact Or.inl rfl
  · split at h
    · split at h
      · exact sg_nm _ _ ss h
      · cases h
    · split at h
      · exact sg_nm _ _ ss h
      · cases h
/-- both along the path of a line -/
theorem path_0 {m1 m2 M : MzM} {L1 L2 : MzV} {fr vd a : Int32} {ss : List Int32} (hE : EE m1 L1 m2 L2) (ha : a.toInt = ((0 : Nat) : Int)) (hu : ¬ mz_i m1 (8, 0) 7 = 0) (hfr : fr = frI (L1 13 0) (spc (L1 13 0) + 1)) (hp : pth (L1 13 0) (spc (L1 13 0) + 1) = some ss) (h : A1 M (mz_si (mS m1 0 (spc (L1 13 0)) fr vd) (8, 0) 16 0) (lu L1 15 0 ss)) : ∃ tg pl : Int32, exI m2 tg ∧ (pl = -1 ∨ ∃ n : Nat, dirE m2 n ∧ pl = Int32.ofNat n) ∧ (¬ pl = -1 → tg = -1 ∧ nmE (lsI ss)) ∧ (∀ K : MzM → Prop, (∀ M', A1 M' (mz_si (mz_si (mz_si (mS m1 0 (spc (L1 13 0)) fr vd) (8, 0) 16 0) (8, 0) 12 tg) (8, 0) 13 pl) (lu L1 15 0 ss) → K M') → wp_Ses_locate 0 M K) ∧ (∀ (M2 : MzM) (K : MzM → Prop), A2 M2 (mz_si (nB m2 0 a) (30, 0) 32 (Int32.ofNat (spc (L2 43 0) + 1))) L2 → (∀ M3 cc, A2 M3 (mz_si (mz_si (mz_si (mz_si (nB m2 0 a) (30, 0) 32 (Int32.ofNat (spc (L2 43 0) + 1))) (30, 0) 33 tg) (30, 0) 34 pl) (30, 0) 35 cc) L2 → (¬ pl = -1 → cc = lsI ss) → K M3) → wp_Mo_follow M2 K) := by
  obtain ⟨s1, s2, s3, s4, s5, s6, s7, s8, s9, s10, s11, s12, s13, s14, s15, s16⟩ := hE.1
  have hcl := spc_le (L1 13 0)
  have h30 : (L1 13 0).length ≤ 30 := (h.line 0).2.1
  have hN := hE.2.2.1
  have hr := hE.2.2.2.2.1
  have hw0 : ¬ mz_i m2 (46, 0) 0 = 0 := by
    rcases s7 with ⟨p, q⟩ | ⟨p, q⟩ | ⟨p, q⟩
    · exact absurd q hu
    · rw [p]; decide
    · rw [p]; decide
  obtain ⟨nc, hnc, enc⟩ : ∃ n : Nat, dirE m2 n ∧ mz_i m2 (50, 0) 0 = Int32.ofNat n := by
    rcases s11.2 with ⟨q, _⟩ | ⟨_, q⟩
    · exact absurd q hw0
    · exact q
  have est : stI (mz_si (mS m1 0 (spc (L1 13 0)) fr vd) (8, 0) 16 0) 0 = (if chv (L2 43 0) (spc (L2 43 0) + 1) = 47 then 0 else mz_i m2 (50, 0) 0) := by
    show (if fr = 0 then mz_i m1 (6, 0) 0 else 0) = _
    rw [hfr, s11.1, ← s3]
    unfold frI
    by_cases hc : chv (L1 13 0) (spc (L1 13 0) + 1) = 47
    · rw [if_pos hc, if_pos hc, if_neg (by decide)]
    · rw [if_neg hc, if_neg hc, if_pos rfl]
  have hdir : drB m2 (stI (mz_si (mS m1 0 (spc (L1 13 0)) fr vd) (8, 0) 16 0) 0) = true := by
    rw [est]
    split
    · exact drB_iff.mpr ⟨0, hr.1, rfl⟩
    · exact drB_iff.mpr ⟨nc, hnc, enc⟩
  have hex : exI m2 (stI (mz_si (mS m1 0 (spc (L1 13 0)) fr vd) (8, 0) 16 0) 0) := by
    obtain ⟨n, hn, e⟩ := drB_iff.mp hdir
    exact Or.inr ⟨n, hn.1, hn.2.1, e⟩
  refine ⟨wlk m2 (stI (mz_si (mS m1 0 (spc (L1 13 0)) fr vd) (8, 0) 16 0) 0) ss, plc m2 (stI (mz_si (mS m1 0 (spc (L1 13 0)) fr vd) (8, 0) 16 0) 0) ss, wlk_ex hN hr ss _ hex, plc_dir m2 ss _, fun z => ⟨(plc_tgt z).1, (pth_nm hp).elim (fun w => absurd w (plc_tgt z).2) id⟩, fun K hK => ?_, fun M2 K h2 hK => ?_⟩
  · exact pl_locate h (by decide) s1 (fun n hn => hN n hn) hr hdir (fun M' h' => hK M' h')
  · have hp2 : pth (L2 43 0) (spc (L2 43 0) + 1) = some ss := by rw [← s3]; exact hp
    refine mo_follow (x := 0) (b := spc (L2 43 0) + 1) (m1 := m1) (L1 := L1) (L2 := L2) h2 ha (by decide) rfl (by rw [← s3]; omega) (fun n hn => hN n hn) hr hp2 ?_ (fun M3 cc h3 hc => ?_)
    · have e50 : mz_i (mz_si (nB m2 0 a) (30, 0) 32 (Int32.ofNat (spc (L2 43 0) + 1))) (50, 0) 0 = mz_i m2 (50, 0) 0 := rfl
      rw [e50, ← est]
      exact hex
    · have e50 : mz_i (mz_si (nB m2 0 a) (30, 0) 32 (Int32.ofNat (spc (L2 43 0) + 1))) (50, 0) 0 = mz_i m2 (50, 0) 0 := rfl
      rw [e50, ← est, wlk_congr (m := m2) (m' := (mz_si (nB m2 0 a) (30, 0) 32 (Int32.ofNat (spc (L2 43 0) + 1)))) rfl rfl rfl rfl, plc_congr (m := m2) (m' := (mz_si (nB m2 0 a) (30, 0) 32 (Int32.ofNat (spc (L2 43 0) + 1)))) rfl rfl rfl rfl] at h3
      rw [e50, ← est, plc_congr (m := m2) (m' := (mz_si (nB m2 0 a) (30, 0) 32 (Int32.ofNat (spc (L2 43 0) + 1)))) rfl rfl rfl rfl] at hc
      exact hK M3 cc h3 hc
/-- both along the path of a line -/
theorem path_1 {m1 m2 M : MzM} {L1 L2 : MzV} {fr vd a : Int32} {ss : List Int32} (hE : EE m1 L1 m2 L2) (ha : a.toInt = ((1 : Nat) : Int)) (hu : ¬ mz_i m1 (8, 1) 7 = 0) (hfr : fr = frI (L1 13 1) (spc (L1 13 1) + 1)) (hp : pth (L1 13 1) (spc (L1 13 1) + 1) = some ss) (h : A1 M (mz_si (mS m1 1 (spc (L1 13 1)) fr vd) (8, 1) 16 0) (lu L1 15 1 ss)) : ∃ tg pl : Int32, exI m2 tg ∧ (pl = -1 ∨ ∃ n : Nat, dirE m2 n ∧ pl = Int32.ofNat n) ∧ (¬ pl = -1 → tg = -1 ∧ nmE (lsI ss)) ∧ (∀ K : MzM → Prop, (∀ M', A1 M' (mz_si (mz_si (mz_si (mS m1 1 (spc (L1 13 1)) fr vd) (8, 1) 16 0) (8, 1) 12 tg) (8, 1) 13 pl) (lu L1 15 1 ss) → K M') → wp_Ses_locate 1 M K) ∧ (∀ (M2 : MzM) (K : MzM → Prop), A2 M2 (mz_si (nB m2 1 a) (30, 0) 32 (Int32.ofNat (spc (L2 43 1) + 1))) L2 → (∀ M3 cc, A2 M3 (mz_si (mz_si (mz_si (mz_si (nB m2 1 a) (30, 0) 32 (Int32.ofNat (spc (L2 43 1) + 1))) (30, 0) 33 tg) (30, 0) 34 pl) (30, 0) 35 cc) L2 → (¬ pl = -1 → cc = lsI ss) → K M3) → wp_Mo_follow M2 K) := by
  obtain ⟨s1, s2, s3, s4, s5, s6, s7, s8, s9, s10, s11, s12, s13, s14, s15, s16⟩ := hE.2.1
  have hcl := spc_le (L1 13 1)
  have h30 : (L1 13 1).length ≤ 30 := (h.line 1).2.1
  have hN := hE.2.2.1
  have hr := hE.2.2.2.2.1
  have hw0 : ¬ mz_i m2 (46, 0) 1 = 0 := by
    rcases s7 with ⟨p, q⟩ | ⟨p, q⟩ | ⟨p, q⟩
    · exact absurd q hu
    · rw [p]; decide
    · rw [p]; decide
  obtain ⟨nc, hnc, enc⟩ : ∃ n : Nat, dirE m2 n ∧ mz_i m2 (50, 0) 1 = Int32.ofNat n := by
    rcases s11.2 with ⟨q, _⟩ | ⟨_, q⟩
    · exact absurd q hw0
    · exact q
  have est : stI (mz_si (mS m1 1 (spc (L1 13 1)) fr vd) (8, 1) 16 0) 1 = (if chv (L2 43 1) (spc (L2 43 1) + 1) = 47 then 0 else mz_i m2 (50, 0) 1) := by
    show (if fr = 0 then mz_i m1 (6, 0) 1 else 0) = _
    rw [hfr, s11.1, ← s3]
    unfold frI
    by_cases hc : chv (L1 13 1) (spc (L1 13 1) + 1) = 47
    · rw [if_pos hc, if_pos hc, if_neg (by decide)]
    · rw [if_neg hc, if_neg hc, if_pos rfl]
  have hdir : drB m2 (stI (mz_si (mS m1 1 (spc (L1 13 1)) fr vd) (8, 1) 16 0) 1) = true := by
    rw [est]
    split
    · exact drB_iff.mpr ⟨0, hr.1, rfl⟩
    · exact drB_iff.mpr ⟨nc, hnc, enc⟩
  have hex : exI m2 (stI (mz_si (mS m1 1 (spc (L1 13 1)) fr vd) (8, 1) 16 0) 1) := by
    obtain ⟨n, hn, e⟩ := drB_iff.mp hdir
    exact Or.inr ⟨n, hn.1, hn.2.1, e⟩
  refine ⟨wlk m2 (stI (mz_si (mS m1 1 (spc (L1 13 1)) fr vd) (8, 1) 16 0) 1) ss, plc m2 (stI (mz_si (mS m1 1 (spc (L1 13 1)) fr vd) (8, 1) 16 0) 1) ss, wlk_ex hN hr ss _ hex, plc_dir m2 ss _, fun z => ⟨(plc_tgt z).1, (pth_nm hp).elim (fun w => absurd w (plc_tgt z).2) id⟩, fun K hK => ?_, fun M2 K h2 hK => ?_⟩
  · exact pl_locate h (by decide) s1 (fun n hn => hN n hn) hr hdir (fun M' h' => hK M' h')
  · have hp2 : pth (L2 43 1) (spc (L2 43 1) + 1) = some ss := by rw [← s3]; exact hp
    refine mo_follow (x := 1) (b := spc (L2 43 1) + 1) (m1 := m1) (L1 := L1) (L2 := L2) h2 ha (by decide) rfl (by rw [← s3]; omega) (fun n hn => hN n hn) hr hp2 ?_ (fun M3 cc h3 hc => ?_)
    · have e50 : mz_i (mz_si (nB m2 1 a) (30, 0) 32 (Int32.ofNat (spc (L2 43 1) + 1))) (50, 0) 1 = mz_i m2 (50, 0) 1 := rfl
      rw [e50, ← est]
      exact hex
    · have e50 : mz_i (mz_si (nB m2 1 a) (30, 0) 32 (Int32.ofNat (spc (L2 43 1) + 1))) (50, 0) 1 = mz_i m2 (50, 0) 1 := rfl
      rw [e50, ← est, wlk_congr (m := m2) (m' := (mz_si (nB m2 1 a) (30, 0) 32 (Int32.ofNat (spc (L2 43 1) + 1)))) rfl rfl rfl rfl, plc_congr (m := m2) (m' := (mz_si (nB m2 1 a) (30, 0) 32 (Int32.ofNat (spc (L2 43 1) + 1)))) rfl rfl rfl rfl] at h3
      rw [e50, ← est, plc_congr (m := m2) (m' := (mz_si (nB m2 1 a) (30, 0) 32 (Int32.ofNat (spc (L2 43 1) + 1)))) rfl rfl rfl rfl] at hc
      exact hK M3 cc h3 hc
