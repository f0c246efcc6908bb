theorem se_nm {l : List Int32} {p : Nat} (h : p < se l p) (h46 : ¬ chv l p = 46) : nmE (nmv l p (se l p - p)) ∧ 1 ≤ se l p - p ∧ se l p - p ≤ 3 := by
  have hg := se_ge l p
  refine ⟨?_, by omega, by omega⟩
  refine nmv_nmE (by omega) (by omega) ?_
  have n0 : ¬ (chv l p = 46 ∧ chv l (p + 1) = 46) := fun z => h46 z.1
  by_cases c0 : nmC (chv l p) = true
  · have x0 : nmC (ix l p) = true := by rw [← chv_ix (nmC_lt c0)]; exact c0
    by_cases c1 : nmC (chv l (p + 1)) = true
    · have x1 : nmC (ix l (p + 1)) = true := by rw [← chv_ix (nmC_lt c1)]; exact c1
      by_cases c2 : nmC (chv l (p + 2)) = true
      · have x2 : nmC (ix l (p + 2)) = true := by rw [← chv_ix (nmC_lt c2)]; exact c2
        have e : se l p - p = 3 := by
          unfold se
          rw [if_neg n0, if_pos c0, if_pos c1, if_pos c2]
          omega
        rw [e]
        show (nmC (ix l (p + 2)) && (nmC (ix l (p + 1)) && nmC (ix l p))) = true
        rw [x0, x1, x2]
        rfl
      · have e : se l p - p = 2 := by
          unfold se
          rw [if_neg n0, if_pos c0, if_pos c1, if_neg c2]
          omega
        rw [e]
        show (nmC (ix l (p + 1)) && nmC (ix l p)) = true
        rw [x0, x1]
        rfl
    · have e : se l p - p = 1 := by
        unfold se
        rw [if_neg n0, if_pos c0, if_neg c1]
        omega
      rw [e]
      exact x0
  · have e : se l p = p := by
      unfold se
      rw [if_neg n0, if_neg c0]
    omega
theorem mo_follow_loop {x : Nat} {m m1 : MzM} {L L1 L2 : MzV} {K : MzM → Prop} (hs : (mz_i m (30, 0) 29).toInt = (x : Int)) (hx : x < 2) (hlen : (L 43 x).length ≤ 30) (hN : ∀ n : Nat, n < 16 → nodeE m1 L1 m L2 n) (hr : rootE m1 m) : ∀ (f p : Nat) (ss : List Int32) (g M : MzM) (a : Int32), sg (L 43 x) f p = some ss → p < (L 43 x).length → A2 M g L → ag3 g m → mz_i g (30, 0) 33 = a → mz_i g (30, 0) 34 = -1 → exI m a → (∀ M' g', A2 M' g' L → ag3 g' m → mz_i g' (30, 0) 33 = wlk m a ss → mz_i g' (30, 0) 34 = plc m a ss → (¬ plc m a ss = -1 → mz_i g' (30, 0) 35 = lsI ss) → K M') → wp_Mo_follow_63 K (f + 1) (Int32.ofNat p) M := by
  intro f
  induction f with
  | zero =>
    intro p ss g M a hss
    cases hss
  | succ f ih =>
    intro p ss g M a hss hp h hag h33 h34 hex hk
    obtain ⟨f', ef, hpq, hcase⟩ := sg_step hss
    have ef' : f' = f := by omega
    subst ef'
    obtain ⟨e1, e2, e3⟩ := h.line hx
    have gs : (mz_i g (30, 0) 29).toInt = (x : Int) := by rw [hag 30 29 (by omega)]; exact hs
    have s0 : (mz_i M (30, 0) 29).toInt = (x : Int) := by rw [h.1 30 29 rfl]; exact gs
    have tp : (Int32.ofNat p).toInt = (p : Int) := itn (by omega)
    have hg := se_ge (L 43 x) p
    have hql : se (L 43 x) p ≤ (L 43 x).length := by rcases hcase with q | q <;> omega
    have tq : (Int32.ofNat (se (L 43 x) p)).toInt = ((se (L 43 x) p : Nat) : Int) := itn (by omega)
    have sq : Int32.ofNat (se (L 43 x) p) + 1 = Int32.ofNat (se (L 43 x) p + 1) := i32_succ rfl
    have tq1 : (Int32.ofNat (se (L 43 x) p + 1)).toInt = ((se (L 43 x) p + 1 : Nat) : Int) := itn (by omega)
    have m33 : mz_i M (30, 0) 33 = a := (h.1 30 33 rfl).trans h33
    have wn : ∀ b : Int32, drB m b = false → wlk m b ss = -1 ∧ plc m b ss = -1 := by
      intro b hb
      have hne := sg_ne hss
      cases ss with
      | nil => exact absurd rfl hne
      | cons s0 s1 =>
        have w1 : wlk m b (s0 :: s1) = if drB m b = true then wlk m (if s0 = 0 then upF m b else chd m b s0) s1 else -1 := rfl
        have w2 : plc m b (s0 :: s1) = if drB m b = true then (if s1 = [] then (if ¬ s0 = 0 ∧ chd m b s0 = -1 then b else -1) else plc m (if s0 = 0 then upF m b else chd m b s0) s1) else -1 := rfl
        rw [w1, w2, if_neg (by rw [hb]; decide), if_neg (by rw [hb]; decide)]
        exact ⟨rfl, rfl⟩
    refine ⟨x, s0, hx, fun q => absurd ((ile e1 tp).mp q) (by omega), fun _ => ⟨fun q => ?_, fun q => ?_⟩⟩
    · -- nothing there any more
      rw [m33] at q
      have ha : a = -1 := by
        rcases hex with w | ⟨n, w1, w2, rfl⟩
        · exact w
        · have q1 := (ilt (n := 0) (itn (n := n) (by omega)) rfl).mp q
          omega
      subst ha
      obtain ⟨w1, w2⟩ := wn (-1) (drB_neg m)
      exact hk M g h hag (h33.trans w1.symm) (h34.trans w2.symm) (fun z => absurd w2 z)
    · rw [m33] at q
      have hn : ∃ n : Nat, n < 16 ∧ mz_i m (32, 0) n = 1 ∧ a = Int32.ofNat n := by
        rcases hex with w | w
        · rw [w] at q
          exact absurd (by decide) q
        · exact w
      obtain ⟨n, hn16, hth, rfl⟩ := hn
      have tn : (Int32.ofNat n).toInt = (n : Int) := itn (by omega)
      -- the loop's next turn, with a step b taken
      have nx : ∀ (M' g' : MzM) (b : Int32), drB m (Int32.ofNat n) = true → b = (if sv (L 43 x) p = 0 then upF m (Int32.ofNat n) else chd m (Int32.ofNat n) (sv (L 43 x) p)) → A2 M' g' L → ag3 g' m → mz_i g' (30, 0) 33 = b → exI m b → (se (L 43 x) p = (L 43 x).length → mz_i g' (30, 0) 34 = (if ¬ sv (L 43 x) p = 0 ∧ chd m (Int32.ofNat n) (sv (L 43 x) p) = -1 then Int32.ofNat n else -1) ∧ (¬ sv (L 43 x) p = 0 → mz_i g' (30, 0) 35 = sv (L 43 x) p)) → (¬ se (L 43 x) p = (L 43 x).length → mz_i g' (30, 0) 34 = -1) → wp_Mo_follow_208 (wp_Mo_follow_63 K (f' + 1)) K (Int32.ofNat (se (L 43 x) p)) M' := by
        intro M' g' b hd hb h' hag' k33 hexb kl kn
        show wp_Mo_follow_63 K (f' + 1) (Int32.ofNat (se (L 43 x) p) + 1) M'
        rw [sq]
        rcases hcase with ⟨c1, c2⟩ | ⟨c1, c2, ss', c3, c4, c5⟩
        · obtain ⟨e1', e2', e3'⟩ := h'.line hx
          have s0' : (mz_i M' (30, 0) 29).toInt = (x : Int) := by rw [h'.1 30 29 rfl, hag' 30 29 (by omega)]; exact hs
          refine ⟨x, s0', hx, fun _ => ?_, fun z => absurd ((ile e1' tq1).mpr (by omega)) z⟩
          obtain ⟨k1, k2⟩ := kl c1
          have w1 : wlk m (Int32.ofNat n) ss = b := by
            rw [c2, hb]
            show (if drB m (Int32.ofNat n) = true then (if sv (L 43 x) p = 0 then upF m (Int32.ofNat n) else chd m (Int32.ofNat n) (sv (L 43 x) p)) else -1) = _
            rw [if_pos hd]
          have w2 : plc m (Int32.ofNat n) ss = if ¬ sv (L 43 x) p = 0 ∧ chd m (Int32.ofNat n) (sv (L 43 x) p) = -1 then Int32.ofNat n else -1 := by
            rw [c2]
            show (if drB m (Int32.ofNat n) = true then _ else -1) = _
            rw [if_pos hd]
            rfl
          refine hk M' g' h' hag' (k33.trans w1.symm) (k1.trans w2.symm) (fun z => ?_)
          rw [w2] at z
          have hsv : ¬ sv (L 43 x) p = 0 := fun w => z (if_neg (fun y => y.1 w))
          rw [k2 hsv, c2]
          rfl
        · have w1 : wlk m (Int32.ofNat n) ss = wlk m b ss' := by
            rw [c3, hb]
            show (if drB m (Int32.ofNat n) = true then wlk m (if sv (L 43 x) p = 0 then upF m (Int32.ofNat n) else chd m (Int32.ofNat n) (sv (L 43 x) p)) ss' else -1) = _
            rw [if_pos hd]
          have w2 : plc m (Int32.ofNat n) ss = plc m b ss' := by
            rw [c3, hb]
            show (if drB m (Int32.ofNat n) = true then (if ss' = [] then _ else plc m (if sv (L 43 x) p = 0 then upF m (Int32.ofNat n) else chd m (Int32.ofNat n) (sv (L 43 x) p)) ss') else -1) = _
            rw [if_pos hd, if_neg c4]
          have w3 : lsI ss = lsI ss' := by
            rw [c3]
            unfold lsI
            cases ss' with
            | nil => exact absurd rfl c4
            | cons s1 s2 => simp [List.getLastD]
          refine ih (se (L 43 x) p + 1) ss' g' M' b c5 c1 h' hag' k33 (kn (by omega)) hexb ?_
          intro M3 g3 h3 hag3 q1 q2 q3
          rw [← w1] at q1
          rw [← w2] at q2 q3
          rw [← w3] at q3
          exact hk M3 g3 h3 hag3 q1 q2 q3
      -- a file stands in the way
      have fl : drB m (Int32.ofNat n) = false → ∀ (M' g' : MzM), A2 M' g' L → ag3 g' m → mz_i g' (30, 0) 33 = -1 → mz_i g' (30, 0) 34 = -1 → wp_Mo_follow_208 (wp_Mo_follow_63 K (f' + 1)) K (Int32.ofNat (se (L 43 x) p)) M' := by
        intro hd M' g' h' hag' k33 k34
        obtain ⟨w1, w2⟩ := wn _ hd
        have fin : K M' := hk M' g' h' hag' (k33.trans w1.symm) (k34.trans w2.symm) (fun z => absurd w2 z)
        have s0' : (mz_i M' (30, 0) 29).toInt = (x : Int) := by rw [h'.1 30 29 rfl, hag' 30 29 (by omega)]; exact hs
        have m33' : mz_i M' (30, 0) 33 = -1 := (h'.1 30 33 rfl).trans k33
        exact ⟨x, s0', hx, fun _ => fin, fun _ => ⟨fun _ => fin, fun z => absurd (by rw [m33']; decide) z⟩⟩
      have t110 : ∀ ys0 : Int32, ((ys0 = 0 ∧ ¬ chv (L 43 x) p = 46) ∨ (ys0 = 1 ∧ chv (L 43 x) p = 46)) → wp_Mo_follow_110 (wp_Mo_follow_63 K (f' + 1)) K (Int32.ofNat p) (Int32.ofNat (se (L 43 x) p)) (Int32.ofNat n) ys0 M := by
        intro ys0 hys
        have e33 : mz_i M (33, 0) n = mz_i m (33, 0) n := (h.1 33 n rfl).trans (hag 33 n (by omega))
        refine ⟨n, tn, hn16, fun z => ?_, fun z => ?_⟩
        · rw [e33] at z
          have hd : drB m (Int32.ofNat n) = true := drB_iff.mpr ⟨n, ⟨hn16, hth, z⟩, rfl⟩
          rcases hys with ⟨y1, y2⟩ | ⟨y1, y2⟩
          · refine ⟨fun _ => ?_, fun w => absurd y1 w⟩
            obtain ⟨hnm, k1, k3⟩ := se_nm hpq y2
            have esv : sv (L 43 x) p = nmv (L 43 x) p (se (L 43 x) p - p) := by unfold sv; rw [if_neg y2]
            have hsv0 : ¬ sv (L 43 x) p = 0 := by rw [esv]; exact (nmE_ne hnm).2
            refine mo_nameAt (p := p) (k := se (L 43 x) p - p) h gs hx rfl (by rw [Nat.add_sub_cancel' (by omega)]) k1 k3 (by omega) ?_
            rw [← esv]
            rintro _ rfl
            have h1 := h.si (t := 30) (k := 35) (v := sv (L 43 x) p) rfl
            have a1 := hag.si (k := 35) (v := sv (L 43 x) p) (by omega)
            have e35 : mz_i (mz_si M (30, 0) 35 (sv (L 43 x) p)) (30, 0) 35 = sv (L 43 x) p := by rw [mz_i_si, if_pos ⟨rfl, rfl⟩]
            rw [e35]
            refine mo_child h1 ?_
            have ec : chd (mz_si g (30, 0) 35 (sv (L 43 x) p)) (Int32.ofNat n) (sv (L 43 x) p) = chd m (Int32.ofNat n) (sv (L 43 x) p) := by
              unfold chd
              refine chF_congr 15 1 (fun i _ _ => ?_)
              rw [a1 32 i (by omega), a1 34 i (by omega), a1 35 i (by omega)]
            rw [ec]
            rintro _ rfl
            have h2 := h1.si (t := 30) (k := 33) (v := chd m (Int32.ofNat n) (sv (L 43 x) p)) rfl
            have a2 := a1.si (k := 33) (v := chd m (Int32.ofNat n) (sv (L 43 x) p)) (by omega)
            have f33 : mz_i (mz_si (mz_si M (30, 0) 35 (sv (L 43 x) p)) (30, 0) 33 (chd m (Int32.ofNat n) (sv (L 43 x) p))) (30, 0) 33 = chd m (Int32.ofNat n) (sv (L 43 x) p) := by rw [mz_i_si, if_pos ⟨rfl, rfl⟩]
            have gb : chd m (Int32.ofNat n) (sv (L 43 x) p) = (if sv (L 43 x) p = 0 then upF m (Int32.ofNat n) else chd m (Int32.ofNat n) (sv (L 43 x) p)) := by rw [if_neg hsv0]
            have g34 : mz_i (mz_si (mz_si g (30, 0) 35 (sv (L 43 x) p)) (30, 0) 33 (chd m (Int32.ofNat n) (sv (L 43 x) p))) (30, 0) 34 = -1 := h34
            have g33 : mz_i (mz_si (mz_si g (30, 0) 35 (sv (L 43 x) p)) (30, 0) 33 (chd m (Int32.ofNat n) (sv (L 43 x) p))) (30, 0) 33 = chd m (Int32.ofNat n) (sv (L 43 x) p) := by rw [mz_i_si, if_pos ⟨rfl, rfl⟩]
            have g35 : mz_i (mz_si (mz_si g (30, 0) 35 (sv (L 43 x) p)) (30, 0) 33 (chd m (Int32.ofNat n) (sv (L 43 x) p))) (30, 0) 35 = sv (L 43 x) p := by rw [mz_ne_k (by decide), mz_i_si, if_pos ⟨rfl, rfl⟩]
            have hexc := chd_ex hN (Int32.ofNat n) (sv (L 43 x) p)
            rw [f33]
            refine ⟨fun w => ?_, fun w => ?_⟩
            · have hc : ¬ chd m (Int32.ofNat n) (sv (L 43 x) p) = -1 := fun y => by rw [y] at w; exact absurd w (by decide)
              exact nx _ _ _ hd gb h2 a2 g33 hexc (fun _ => ⟨by rw [if_neg (fun y => hc y.2)]; exact g34, fun _ => g35⟩) (fun _ => g34)
            · have hc : chd m (Int32.ofNat n) (sv (L 43 x) p) = -1 := by
                rcases hexc with y | ⟨j, y1, y2, y3⟩
                · exact y
                · rw [y3] at w
                  exact absurd ((ile (m := 0) rfl (itn (n := j) (by omega))).mpr (by omega)) w
              obtain ⟨l1, l2, l3⟩ := h2.line hx
              have s2 : (mz_i (mz_si (mz_si M (30, 0) 35 (sv (L 43 x) p)) (30, 0) 33 (chd m (Int32.ofNat n) (sv (L 43 x) p))) (30, 0) 29).toInt = (x : Int) := s0
              refine ⟨x, s2, hx, fun y => ?_, fun y => ?_⟩
              · have hq : ¬ se (L 43 x) p = (L 43 x).length := fun v => y ((ieq tq l1).mpr (by omega))
                exact nx _ _ _ hd gb h2 a2 g33 hexc (fun v => absurd v hq) (fun _ => g34)
              · have hq : se (L 43 x) p = (L 43 x).length := by
                  have y1 := (ieq tq l1).mp y
                  omega
                rintro _ rfl
                have h3 := h2.si (t := 30) (k := 34) (v := Int32.ofNat n) rfl
                have a3 := a2.si (k := 34) (v := Int32.ofNat n) (by omega)
                exact nx _ _ _ hd gb h3 a3 ((mz_ne_k (by decide)).trans g33) hexc (fun _ => ⟨by rw [if_pos ⟨hsv0, hc⟩, mz_i_si, if_pos ⟨rfl, rfl⟩], fun _ => (mz_ne_k (by decide)).trans g35⟩) (fun v => absurd hq v)
          · have esv : sv (L 43 x) p = 0 := by unfold sv; rw [if_pos y2]
            refine ⟨fun w => absurd (y1.symm.trans w) (by decide), fun _ => ?_⟩
            obtain ⟨pn, hpn, eup⟩ := up_ex hN hr hd
            have t152 : ∀ v : Int32, v = upF m (Int32.ofNat n) → wp_Mo_follow_152 (wp_Mo_follow_63 K (f' + 1)) K (Int32.ofNat (se (L 43 x) p)) v M := by
              intro v hv
              rintro _ rfl
              have h1 := h.si (t := 30) (k := 33) (v := v) rfl
              have a1 := hag.si (k := 33) (v := v) (by omega)
              have g33 : mz_i (mz_si g (30, 0) 33 v) (30, 0) 33 = v := by rw [mz_i_si, if_pos ⟨rfl, rfl⟩]
              have g34 : mz_i (mz_si g (30, 0) 33 v) (30, 0) 34 = -1 := h34
              refine nx _ _ v hd (by rw [if_pos esv]; exact hv) h1 a1 g33 (Or.inr ⟨pn, hpn.1, hpn.2.1, hv.trans eup⟩) (fun _ => ⟨by rw [if_neg (fun y => y.1 esv)]; exact g34, fun y => absurd esv y⟩) (fun _ => g34)
            refine ⟨fun w => ⟨n, tn, hn16, t152 _ ?_⟩, fun w => t152 _ ?_⟩
            · unfold upF
              rw [if_neg w, tn, h.1 34 n rfl, hag 34 n (by omega)]
              rfl
            · unfold upF
              rw [if_pos w]
        · rw [e33] at z
          have hd : drB m (Int32.ofNat n) = false := by
            rw [Bool.eq_false_iff]
            intro w
            obtain ⟨n', hn', e'⟩ := drB_iff.mp w
            have en := ofN_inj (by omega) (by have := hn'.1; omega) e'
            rw [← en] at hn'
            exact z hn'.2.2
          rintro _ rfl
          have h1 := h.si (t := 30) (k := 33) (v := -1) rfl
          have a1 := hag.si (k := 33) (v := -1) (by omega)
          exact fl hd _ _ h1 a1 (by rw [mz_i_si, if_pos ⟨rfl, rfl⟩]) h34
      refine mo_stepEnd h gs hx rfl (by omega) (mo_ch h gs hx tp (by omega) ?_)
      rw [m33]
      exact ⟨fun w => t110 0 (Or.inl ⟨rfl, w⟩), fun w => t110 1 (Or.inr ⟨rfl, w⟩)⟩
