/-! the reference's words are determined -/
def Det {α : Type} (W : (α → Prop) → Prop) : Prop := ∀ P : α → Prop, W P → ∃ a : α, P a ∧ ∀ Q : α → Prop, Q a → W Q
theorem Det.ret {α : Type} (a : α) : Det (fun P : α → Prop => P a) := fun _ h => ⟨a, h, fun _ q => q⟩
theorem Det.fls {α : Type} : Det (fun _ : α → Prop => False) := fun _ h => h.elim
theorem Det.ite {α : Type} {c : Prop} {A B : (α → Prop) → Prop} (hA : Det A) (hB : Det B) : Det (fun P => (c → A P) ∧ (¬ c → B P)) := by
  intro P h
  by_cases hc : c
  · obtain ⟨a, h1, h2⟩ := hA P (h.1 hc)
    exact ⟨a, h1, fun Q q => ⟨fun _ => h2 Q q, fun z => absurd hc z⟩⟩
  · obtain ⟨a, h1, h2⟩ := hB P (h.2 hc)
    exact ⟨a, h1, fun Q q => ⟨fun z => absurd z hc, fun _ => h2 Q q⟩⟩
theorem Det.itn {α : Type} {c : Prop} {A B : (α → Prop) → Prop} (hA : Det A) (hB : Det B) : Det (fun P => (¬ c → B P) ∧ (c → A P)) := by
  intro P h
  by_cases hc : c
  · obtain ⟨a, h1, h2⟩ := hA P (h.2 hc)
    exact ⟨a, h1, fun Q q => ⟨fun z => absurd hc z, fun _ => h2 Q q⟩⟩
  · obtain ⟨a, h1, h2⟩ := hB P (h.1 hc)
    exact ⟨a, h1, fun Q q => ⟨fun _ => h2 Q q, fun z => absurd z hc⟩⟩
theorem Det.ex {α : Type} {p q : Nat → Prop} {A : Nat → (α → Prop) → Prop} (hA : ∀ j, Det (A j)) : Det (fun P => ∃ j : Nat, p j ∧ q j ∧ A j P) := by
  rintro P ⟨j, h1, h2, h3⟩
  obtain ⟨a, g1, g2⟩ := hA j P h3
  exact ⟨a, g1, fun Q r => ⟨j, h1, h2, g2 Q r⟩⟩
theorem Det.all {α : Type} {e : MzM} {A : MzM → (α → Prop) → Prop} (hA : ∀ M, Det (A M)) : Det (fun P => ∀ M : MzM, M = e → A M P) := by
  intro P h
  obtain ⟨a, g1, g2⟩ := hA e P (h e rfl)
  refine ⟨a, g1, fun Q r => ?_⟩
  rintro _ rfl
  exact g2 Q r
theorem Det.fuel {α : Type} {A : Nat → (α → Prop) → Prop} (hA : ∀ r, Det (A r)) : Det (fun P => ∃ r : Nat, A r P) := by
  rintro P ⟨r, h⟩
  obtain ⟨a, g1, g2⟩ := hA r P h
  exact ⟨a, g1, fun Q q => ⟨r, g2 Q q⟩⟩
theorem Det.and {α : Type} {c : Prop} {A : (α → Prop) → Prop} (hA : Det A) : Det (fun P => c ∧ A P) := by
  rintro P ⟨hc, h⟩
  obtain ⟨a, g1, g2⟩ := hA P h
  exact ⟨a, g1, fun Q q => ⟨hc, g2 Q q⟩⟩
theorem Det.sw6 {α : Type} {y k1 k2 k3 k4 k5 k6 : Int32} {A1 A2 A3 A4 A5 A6 Z : (α → Prop) → Prop} (hd : [k1, k2, k3, k4, k5, k6].Nodup) (h1 : Det A1) (h2 : Det A2) (h3 : Det A3) (h4 : Det A4) (h5 : Det A5) (h6 : Det A6) (hZ : Det Z) : Det (fun P => (y = k1 → A1 P) ∧ (y = k2 → A2 P) ∧ (y = k3 → A3 P) ∧ (y = k4 → A4 P) ∧ (y = k5 → A5 P) ∧ (y = k6 → A6 P) ∧ (¬ y = k1 → ¬ y = k2 → ¬ y = k3 → ¬ y = k4 → ¬ y = k5 → ¬ y = k6 → Z P)) := by
  simp only [List.nodup_cons, List.mem_cons, List.not_mem_nil, or_false, not_or, List.nodup_nil, and_true, not_false_eq_true] at hd
  intro P h
  obtain ⟨g1, g2, g3, g4, g5, g6, gZ⟩ := h
  by_cases c1 : y = k1
  · subst c1
    obtain ⟨a, e1, e2⟩ := h1 P (g1 rfl)
    exact ⟨a, e1, fun Q q => ⟨fun _ => e2 Q q, fun z => absurd z (by simp_all), fun z => absurd z (by simp_all), fun z => absurd z (by simp_all), fun z => absurd z (by simp_all), fun z => absurd z (by simp_all), fun n1 n2 n3 n4 n5 n6 => absurd rfl n1⟩⟩
  by_cases c2 : y = k2
  · subst c2
    obtain ⟨a, e1, e2⟩ := h2 P (g2 rfl)
    exact ⟨a, e1, fun Q q => ⟨fun z => absurd z (by simp_all), fun _ => e2 Q q, fun z => absurd z (by simp_all), fun z => absurd z (by simp_all), fun z => absurd z (by simp_all), fun z => absurd z (by simp_all), fun n1 n2 n3 n4 n5 n6 => absurd rfl n2⟩⟩
  by_cases c3 : y = k3
  · subst c3
    obtain ⟨a, e1, e2⟩ := h3 P (g3 rfl)
    exact ⟨a, e1, fun Q q => ⟨fun z => absurd z (by simp_all), fun z => absurd z (by simp_all), fun _ => e2 Q q, fun z => absurd z (by simp_all), fun z => absurd z (by simp_all), fun z => absurd z (by simp_all), fun n1 n2 n3 n4 n5 n6 => absurd rfl n3⟩⟩
  by_cases c4 : y = k4
  · subst c4
    obtain ⟨a, e1, e2⟩ := h4 P (g4 rfl)
    exact ⟨a, e1, fun Q q => ⟨fun z => absurd z (by simp_all), fun z => absurd z (by simp_all), fun z => absurd z (by simp_all), fun _ => e2 Q q, fun z => absurd z (by simp_all), fun z => absurd z (by simp_all), fun n1 n2 n3 n4 n5 n6 => absurd rfl n4⟩⟩
  by_cases c5 : y = k5
  · subst c5
    obtain ⟨a, e1, e2⟩ := h5 P (g5 rfl)
    exact ⟨a, e1, fun Q q => ⟨fun z => absurd z (by simp_all), fun z => absurd z (by simp_all), fun z => absurd z (by simp_all), fun z => absurd z (by simp_all), fun _ => e2 Q q, fun z => absurd z (by simp_all), fun n1 n2 n3 n4 n5 n6 => absurd rfl n5⟩⟩
  by_cases c6 : y = k6
  · subst c6
    obtain ⟨a, e1, e2⟩ := h6 P (g6 rfl)
    exact ⟨a, e1, fun Q q => ⟨fun z => absurd z (by simp_all), fun z => absurd z (by simp_all), fun z => absurd z (by simp_all), fun z => absurd z (by simp_all), fun z => absurd z (by simp_all), fun _ => e2 Q q, fun n1 n2 n3 n4 n5 n6 => absurd rfl n6⟩⟩
  obtain ⟨a, e1, e2⟩ := hZ P (gZ c1 c2 c3 c4 c5 c6)
  exact ⟨a, e1, fun Q q => ⟨fun z => absurd z c1, fun z => absurd z c2, fun z => absurd z c3, fun z => absurd z c4, fun z => absurd z c5, fun z => absurd z c6, fun _ _ _ _ _ _ => e2 Q q⟩⟩
theorem det_Mo_keep {α : Type} {K : (α → Prop) → MzM → Prop} {a1 : Int32} {a2 : Int32} {M : MzM} (hK : ∀ (z0 : MzM), Det (fun P => K P z0)) : Det (fun P => wp_Mo_keep a1 a2 M (K P)) :=
  Det.ex (fun j1 => Det.itn (hK _) (Det.ex (fun j5 => Det.ex (fun j12 => Det.all (fun M9 => Det.ex (fun j15 => Det.ex (fun j22 => Det.all (fun M19 => hK _))))))))
theorem det_Mo_endTransfer_31 {α : Type} {K : (α → Prop) → MzM → Prop} {y1 : Int32} {M : MzM} (hK : ∀ (z0 : MzM), Det (fun P => K P z0)) : Det (fun P => wp_Mo_endTransfer_31 (K P) y1 M) :=
  Det.ex (fun j21 => Det.all (fun M18 => Det.ex (fun j27 => Det.all (fun M24 => Det.ex (fun j33 => Det.all (fun M30 => Det.ex (fun j39 => Det.all (fun M36 => hK _))))))))
theorem det_Mo_endTransfer {α : Type} {K : (α → Prop) → MzM → Prop} {a1 : Int32} {M : MzM} (hK : ∀ (z0 : MzM), Det (fun P => K P z0)) : Det (fun P => wp_Mo_endTransfer a1 M (K P)) :=
  Det.ex (fun j1 => Det.itn (Det.ex (fun j5 => Det.ite (det_Mo_endTransfer_31 hK) (Det.ex (fun j9 => det_Mo_keep (fun M13 => det_Mo_endTransfer_31 hK))))) (det_Mo_endTransfer_31 hK))
theorem det_Mo_beginSession {α : Type} {K : (α → Prop) → MzM → Prop} {a1 : Int32} {M : MzM} (hK : ∀ (z0 : MzM), Det (fun P => K P z0)) : Det (fun P => wp_Mo_beginSession a1 M (K P)) :=
  Det.ex (fun j4 => Det.all (fun M1 => Det.ex (fun j10 => Det.all (fun M7 => Det.ex (fun j16 => Det.all (fun M13 => Det.ex (fun j22 => Det.all (fun M19 => Det.ex (fun j28 => Det.all (fun M25 => Det.ex (fun j34 => Det.all (fun M31 => Det.ex (fun j40 => Det.all (fun M37 => Det.ex (fun j46 => Det.all (fun M43 => Det.ex (fun j52 => Det.all (fun M49 => Det.ex (fun j58 => Det.all (fun M55 => det_Mo_endTransfer (fun M61 => hK _)))))))))))))))))))))
theorem det_Mo_put {α : Type} {K : (α → Prop) → MzM → Prop} {a1 : Int32} {a2 : Int32} {M : MzM} (hK : ∀ (z0 : MzM), Det (fun P => K P z0)) : Det (fun P => wp_Mo_put a1 a2 M (K P)) :=
  Det.ex (fun j1 => Det.ex (fun j8 => Det.all (fun M5 => Det.ex (fun j11 => Det.ex (fun j18 => Det.all (fun M15 => hK _))))))
theorem det_Mo_hasRoom {α : Type} {K : (α → Prop) → Int32 → MzM → Prop} {a1 : Int32} {a2 : Int32} {M : MzM} (hK : ∀ (z0 : Int32) (z1 : MzM), Det (fun P => K P z0 z1)) : Det (fun P => wp_Mo_hasRoom a1 a2 M (K P)) :=
  Det.ex (fun j1 => Det.ite (hK _ _) (hK _ _))
theorem det_Mo_putCode {α : Type} {K : (α → Prop) → MzM → Prop} {a1 : Int32} {M : MzM} (hK : ∀ (z0 : MzM), Det (fun P => K P z0)) : Det (fun P => wp_Mo_putCode a1 M (K P)) :=
  det_Mo_put (fun M1 => det_Mo_put (fun M4 => det_Mo_put (fun M7 => hK _)))
theorem det_Mo_putEnd {α : Type} {K : (α → Prop) → MzM → Prop} {M : MzM} (hK : ∀ (z0 : MzM), Det (fun P => K P z0)) : Det (fun P => wp_Mo_putEnd M (K P)) :=
  det_Mo_put (fun M1 => det_Mo_put (fun M4 => hK _))
theorem det_Mo_answered {α : Type} {K : (α → Prop) → MzM → Prop} {a1 : Int32} {M : MzM} (hK : ∀ (z0 : MzM), Det (fun P => K P z0)) : Det (fun P => wp_Mo_answered a1 M (K P)) :=
  Det.itn (Det.all (fun M2 => hK _)) (Det.all (fun M1 => hK _))
theorem det_Mo_answer {α : Type} {K : (α → Prop) → MzM → Prop} {a1 : Int32} {M : MzM} (hK : ∀ (z0 : MzM), Det (fun P => K P z0)) : Det (fun P => wp_Mo_answer a1 M (K P)) :=
  det_Mo_answered (fun M1 => det_Mo_hasRoom (fun v7 M4 => Det.itn (hK _) (det_Mo_putCode (fun M8 => det_Mo_putEnd (fun M11 => hK _)))))
theorem det_Mo_replySize_75 {α : Type} {K : (α → Prop) → MzM → Prop} {y1 : Int32} {M : MzM} (hK : ∀ (z0 : MzM), Det (fun P => K P z0)) : Det (fun P => wp_Mo_replySize_75 (K P) y1 M) :=
  det_Mo_put (fun M21 => det_Mo_putEnd (fun M24 => hK _))
theorem det_Mo_replySize_30 {α : Type} {K : (α → Prop) → MzM → Prop} {y1 : Int32} {ys0 : Int32} {ys1 : Int32} {M : MzM} (hK : ∀ (z0 : MzM), Det (fun P => K P z0)) : Det (fun P => wp_Mo_replySize_30 (K P) y1 ys0 ys1 M) :=
  det_Mo_hasRoom (fun v9 M6 => Det.itn (hK _) (det_Mo_putCode (fun M10 => det_Mo_put (fun M13 => Det.ite (det_Mo_replySize_75 hK) (det_Mo_put (fun M16 => det_Mo_replySize_75 hK))))))
theorem det_Mo_replySize {α : Type} {K : (α → Prop) → MzM → Prop} {a1 : Int32} {M : MzM} (hK : ∀ (z0 : MzM), Det (fun P => K P z0)) : Det (fun P => wp_Mo_replySize a1 M (K P)) :=
  det_Mo_answered (fun M1 => Det.all (fun M4 => Det.ite (det_Mo_replySize_30 hK) (det_Mo_replySize_30 hK)))
theorem det_Mo_lettersOf {α : Type} {K : (α → Prop) → Int32 → MzM → Prop} {a0 : Int32} {M : MzM} (hK : ∀ (z0 : Int32) (z1 : MzM), Det (fun P => K P z0 z1)) : Det (fun P => wp_Mo_lettersOf a0 M (K P)) :=
  Det.ite (Det.ite (hK _ _) (hK _ _)) (hK _ _)
theorem det_Mo_depth_4 {α : Type} {K : (α → Prop) → Int32 → MzM → Prop} (hK : ∀ (z0 : Int32) (z1 : MzM), Det (fun P => K P z0 z1)) : ∀ (r : Nat) (y2 : Int32) (y3 : Int32) (M : MzM), Det (fun P => wp_Mo_depth_4 (K P) r y2 y3 M) := by
  intro r
  induction r with
  | zero =>
    intro y2 y3 M
    exact Det.fls
  | succ r0 ih =>
    intro y2 y3 M
    exact Det.ex (fun j3 => Det.ite (hK _ _) (Det.ex (fun j7 => ih _ _ _)))
theorem det_Mo_depth {α : Type} {K : (α → Prop) → Int32 → MzM → Prop} {a1 : Int32} {M : MzM} (hK : ∀ (z0 : Int32) (z1 : MzM), Det (fun P => K P z0 z1)) : Det (fun P => wp_Mo_depth a1 M (K P)) :=
  Det.fuel (fun r1 => det_Mo_depth_4 hK _ _ _ _)
theorem det_Mo_above_5 {α : Type} {K : (α → Prop) → Int32 → MzM → Prop} (hK : ∀ (z0 : Int32) (z1 : MzM), Det (fun P => K P z0 z1)) : ∀ (r : Nat) (y2 : Int32) (y3 : Int32) (y4 : Int32) (M : MzM), Det (fun P => wp_Mo_above_5 (K P) r y2 y3 y4 M) := by
  intro r
  induction r with
  | zero =>
    intro y2 y3 y4 M
    exact Det.fls
  | succ r0 ih =>
    intro y2 y3 y4 M
    exact Det.ite (hK _ _) (Det.ex (fun j3 => ih _ _ _ _))
theorem det_Mo_above {α : Type} {K : (α → Prop) → Int32 → MzM → Prop} {a1 : Int32} {a2 : Int32} {M : MzM} (hK : ∀ (z0 : Int32) (z1 : MzM), Det (fun P => K P z0 z1)) : Det (fun P => wp_Mo_above a1 a2 M (K P)) :=
  Det.fuel (fun r1 => det_Mo_above_5 hK _ _ _ _ _)
theorem det_Mo_replyPath_139 {α : Type} {H110 : (α → Prop) → Int32 → Int32 → MzM → Prop} {K : (α → Prop) → MzM → Prop} (hH110 : ∀ (z0 : Int32) (z1 : Int32) (z2 : MzM), Det (fun P => H110 P z0 z1 z2)) (hK : ∀ (z0 : MzM), Det (fun P => K P z0)) : ∀ (r : Nat) (y1 : Int32) (y4 : Int32) (y5 : Int32) (M : MzM), Det (fun P => wp_Mo_replyPath_139 (H110 P) (K P) r y1 y4 y5 M) := by
  intro r
  induction r with
  | zero =>
    intro y1 y4 y5 M
    exact Det.fls
  | succ r0 ih =>
    intro y1 y4 y5 M
    exact Det.ite (hH110 _ _ _) (det_Mo_put (fun M58 => ih _ _ _ _))
theorem det_Mo_replyPath_110 {α : Type} {K : (α → Prop) → MzM → Prop} (hK : ∀ (z0 : MzM), Det (fun P => K P z0)) : ∀ (r : Nat) (y1 : Int32) (y4 : Int32) (M : MzM), Det (fun P => wp_Mo_replyPath_110 (K P) r y1 y4 M) := by
  intro r
  induction r with
  | zero =>
    intro y1 y4 M
    exact Det.fls
  | succ r0 ih =>
    intro y1 y4 M
    exact Det.ite (det_Mo_putEnd (fun M41 => hK _)) (det_Mo_put (fun M44 => det_Mo_above (fun v50 M47 => Det.ex (fun j51 => Det.fuel (fun r55 => det_Mo_replyPath_139 ih hK _ _ _ _ _)))))
theorem det_Mo_replyPath_105 {α : Type} {K : (α → Prop) → MzM → Prop} {y1 : Int32} {y2 : Int32} {M : MzM} (hK : ∀ (z0 : MzM), Det (fun P => K P z0)) : Det (fun P => wp_Mo_replyPath_105 (K P) y1 y2 M) :=
  Det.fuel (fun r39 => det_Mo_replyPath_110 hK _ _ _ _)
theorem det_Mo_replyPath_26 {α : Type} {K : (α → Prop) → MzM → Prop} (hK : ∀ (z0 : MzM), Det (fun P => K P z0)) : ∀ (r : Nat) (y1 : Int32) (y2 : Int32) (y3 : Int32) (y4 : Int32) (M : MzM), Det (fun P => wp_Mo_replyPath_26 (K P) r y1 y2 y3 y4 M) := by
  intro r
  induction r with
  | zero =>
    intro y1 y2 y3 y4 M
    exact Det.fls
  | succ r0 ih =>
    intro y1 y2 y3 y4 M
    exact Det.ite (det_Mo_hasRoom (fun v14 M11 => Det.itn (hK _) (det_Mo_putCode (fun M15 => det_Mo_put (fun M18 => Det.itn (det_Mo_put (fun M21 => det_Mo_replyPath_105 hK)) (det_Mo_replyPath_105 hK)))))) (det_Mo_above (fun v29 M26 => Det.ex (fun j30 => det_Mo_lettersOf (fun v37 M34 => ih _ _ _ _ _))))
theorem det_Mo_replyPath_22 {α : Type} {K : (α → Prop) → MzM → Prop} {y1 : Int32} {y2 : Int32} {ys0 : Int32} {M : MzM} (hK : ∀ (z0 : MzM), Det (fun P => K P z0)) : Det (fun P => wp_Mo_replyPath_22 (K P) y1 y2 ys0 M) :=
  Det.fuel (fun r9 => det_Mo_replyPath_26 hK _ _ _ _ _ _)
theorem det_Mo_replyPath {α : Type} {K : (α → Prop) → MzM → Prop} {a1 : Int32} {M : MzM} (hK : ∀ (z0 : MzM), Det (fun P => K P z0)) : Det (fun P => wp_Mo_replyPath a1 M (K P)) :=
  det_Mo_answered (fun M1 => det_Mo_depth (fun v7 M4 => Det.itn (det_Mo_replyPath_22 hK) (det_Mo_replyPath_22 hK)))
theorem det_Mo_ch {α : Type} {K : (α → Prop) → Int32 → MzM → Prop} {a1 : Int32} {M : MzM} (hK : ∀ (z0 : Int32) (z1 : MzM), Det (fun P => K P z0 z1)) : Det (fun P => wp_Mo_ch a1 M (K P)) :=
  Det.ex (fun j1 => Det.ite (hK _ _) (Det.ex (fun j5 => hK _ _)))
theorem det_Mo_command_102 {α : Type} {H4 : (α → Prop) → Int32 → Int32 → MzM → Prop} {K : (α → Prop) → Int32 → MzM → Prop} {y1 : Int32} {y2 : Int32} {M : MzM} (hH4 : ∀ (z0 : Int32) (z1 : Int32) (z2 : MzM), Det (fun P => H4 P z0 z1 z2)) (hK : ∀ (z0 : Int32) (z1 : MzM), Det (fun P => K P z0 z1)) : Det (fun P => wp_Mo_command_102 (H4 P) (K P) y1 y2 M) :=
  hH4 _ _ _
theorem det_Mo_command_81 {α : Type} {H4 : (α → Prop) → Int32 → Int32 → MzM → Prop} {K : (α → Prop) → Int32 → MzM → Prop} {y1 : Int32} {ys0 : Int32} {M : MzM} (hH4 : ∀ (z0 : Int32) (z1 : Int32) (z2 : MzM), Det (fun P => H4 P z0 z1 z2)) (hK : ∀ (z0 : Int32) (z1 : MzM), Det (fun P => K P z0 z1)) : Det (fun P => wp_Mo_command_81 (H4 P) (K P) y1 ys0 M) :=
  Det.ite (det_Mo_command_102 hH4 hK) (Det.ex (fun j32 => det_Mo_command_102 hH4 hK))
theorem det_Mo_command_80 {α : Type} {H4 : (α → Prop) → Int32 → Int32 → MzM → Prop} {K : (α → Prop) → Int32 → MzM → Prop} {y1 : Int32} {M : MzM} (hH4 : ∀ (z0 : Int32) (z1 : Int32) (z2 : MzM), Det (fun P => H4 P z0 z1 z2)) (hK : ∀ (z0 : Int32) (z1 : MzM), Det (fun P => K P z0 z1)) : Det (fun P => wp_Mo_command_80 (H4 P) (K P) y1 M) :=
  det_Mo_command_81 hH4 hK
theorem det_Mo_command_53 {α : Type} {H4 : (α → Prop) → Int32 → Int32 → MzM → Prop} {K : (α → Prop) → Int32 → MzM → Prop} {y1 : Int32} {y2 : Int32} {ys0 : Int32} {M : MzM} (hH4 : ∀ (z0 : Int32) (z1 : Int32) (z2 : MzM), Det (fun P => H4 P z0 z1 z2)) (hK : ∀ (z0 : Int32) (z1 : MzM), Det (fun P => K P z0 z1)) : Det (fun P => wp_Mo_command_53 (H4 P) (K P) y1 y2 ys0 M) :=
  Det.ite (det_Mo_command_80 hH4 hK) (Det.ite (det_Mo_command_80 hH4 hK) (Det.ite (det_Mo_command_80 hH4 hK) (det_Mo_command_81 hH4 hK)))
theorem det_Mo_command_52 {α : Type} {H4 : (α → Prop) → Int32 → Int32 → MzM → Prop} {K : (α → Prop) → Int32 → MzM → Prop} {y1 : Int32} {y2 : Int32} {y3 : Int32} {M : MzM} (hH4 : ∀ (z0 : Int32) (z1 : Int32) (z2 : MzM), Det (fun P => H4 P z0 z1 z2)) (hK : ∀ (z0 : Int32) (z1 : MzM), Det (fun P => K P z0 z1)) : Det (fun P => wp_Mo_command_52 (H4 P) (K P) y1 y2 y3 M) :=
  det_Mo_command_53 hH4 hK
theorem det_Mo_command_142 {α : Type} {H117 : (α → Prop) → Int32 → Int32 → Int32 → MzM → Prop} {K : (α → Prop) → Int32 → MzM → Prop} {y2 : Int32} {y3 : Int32} {y4 : Int32} {M : MzM} (hH117 : ∀ (z0 : Int32) (z1 : Int32) (z2 : Int32) (z3 : MzM), Det (fun P => H117 P z0 z1 z2 z3)) (hK : ∀ (z0 : Int32) (z1 : MzM), Det (fun P => K P z0 z1)) : Det (fun P => wp_Mo_command_142 (H117 P) (K P) y2 y3 y4 M) :=
  hH117 _ _ _ _
theorem det_Mo_command_117 {α : Type} {K : (α → Prop) → Int32 → MzM → Prop} (hK : ∀ (z0 : Int32) (z1 : MzM), Det (fun P => K P z0 z1)) : ∀ (r : Nat) (y2 : Int32) (y3 : Int32) (y4 : Int32) (M : MzM), Det (fun P => wp_Mo_command_117 (K P) r y2 y3 y4 M) := by
  intro r
  induction r with
  | zero =>
    intro y2 y3 y4 M
    exact Det.fls
  | succ r0 ih =>
    intro y2 y3 y4 M
    exact Det.ite (hK _ _) (Det.ite (det_Mo_command_142 ih hK) (Det.ex (fun j25 => Det.itn (det_Mo_command_142 ih hK) (det_Mo_command_142 ih hK))))
theorem det_Mo_command_105 {α : Type} {K : (α → Prop) → Int32 → MzM → Prop} {y1 : Int32} {y2 : Int32} {M : MzM} (hK : ∀ (z0 : Int32) (z1 : MzM), Det (fun P => K P z0 z1)) : Det (fun P => wp_Mo_command_105 (K P) y1 y2 M) :=
  Det.all (fun M19 => Det.fuel (fun r20 => det_Mo_command_117 hK _ _ _ _ _))
theorem det_Mo_command_4 {α : Type} {K : (α → Prop) → Int32 → MzM → Prop} (hK : ∀ (z0 : Int32) (z1 : MzM), Det (fun P => K P z0 z1)) : ∀ (r : Nat) (y1 : Int32) (y2 : Int32) (M : MzM), Det (fun P => wp_Mo_command_4 (K P) r y1 y2 M) := by
  intro r
  induction r with
  | zero =>
    intro y1 y2 M
    exact Det.fls
  | succ r0 ih =>
    intro y1 y2 M
    exact Det.ex (fun j3 => Det.ite (det_Mo_command_105 hK) (det_Mo_ch (fun v10 M7 => Det.ite (det_Mo_command_105 hK) (det_Mo_ch (fun v14 M11 => Det.ite (det_Mo_command_52 ih hK) (Det.ite (det_Mo_command_52 ih hK) (det_Mo_command_53 ih hK)))))))
theorem det_Mo_command {α : Type} {K : (α → Prop) → Int32 → MzM → Prop} {M : MzM} (hK : ∀ (z0 : Int32) (z1 : MzM), Det (fun P => K P z0 z1)) : Det (fun P => wp_Mo_command M (K P)) :=
  Det.fuel (fun r1 => det_Mo_command_4 hK _ _ _ _)
theorem det_Mo_hasArgument {α : Type} {K : (α → Prop) → Int32 → MzM → Prop} {M : MzM} (hK : ∀ (z0 : Int32) (z1 : MzM), Det (fun P => K P z0 z1)) : Det (fun P => wp_Mo_hasArgument M (K P)) :=
  Det.ex (fun j1 => Det.ite (hK _ _) (hK _ _))
theorem det_Mo_number {α : Type} {K : (α → Prop) → Int32 → MzM → Prop} {M : MzM} (hK : ∀ (z0 : Int32) (z1 : MzM), Det (fun P => K P z0 z1)) : Det (fun P => wp_Mo_number M (K P)) :=
  Det.ex (fun j1 => det_Mo_ch (fun v8 M5 => Det.ite (hK _ _) (Det.ite (hK _ _) (Det.ite (hK _ _) (Det.ite (Det.itn (hK _ _) (det_Mo_ch (fun v12 M9 => Det.ite (hK _ _) (Det.ite (hK _ _) (Det.ite (hK _ _) (hK _ _)))))) (hK _ _))))))
theorem det_Mo_isPathCommand {α : Type} {K : (α → Prop) → Int32 → MzM → Prop} {a1 : Int32} {M : MzM} (hK : ∀ (z0 : Int32) (z1 : MzM), Det (fun P => K P z0 z1)) : Det (fun P => wp_Mo_isPathCommand a1 M (K P)) :=
  Det.ite (hK _ _) (Det.ite (hK _ _) (Det.ite (Det.ite (hK _ _) (hK _ _)) (Det.ite (hK _ _) (Det.ite (hK _ _) (hK _ _)))))
theorem det_Mo_isLetter_12 {α : Type} {K : (α → Prop) → Int32 → MzM → Prop} {y0 : Int32} {M : MzM} (hK : ∀ (z0 : Int32) (z1 : MzM), Det (fun P => K P z0 z1)) : Det (fun P => wp_Mo_isLetter_12 (K P) y0 M) :=
  Det.ite (hK _ _) (Det.ite (hK _ _) (hK _ _))
theorem det_Mo_isLetter {α : Type} {K : (α → Prop) → Int32 → MzM → Prop} {a0 : Int32} {M : MzM} (hK : ∀ (z0 : Int32) (z1 : MzM), Det (fun P => K P z0 z1)) : Det (fun P => wp_Mo_isLetter a0 M (K P)) :=
  Det.ite (det_Mo_isLetter_12 hK) (Det.ite (hK _ _) (det_Mo_isLetter_12 hK))
theorem det_Mo_stepEnd_28 {α : Type} {K : (α → Prop) → Int32 → MzM → Prop} (hK : ∀ (z0 : Int32) (z1 : MzM), Det (fun P => K P z0 z1)) : ∀ (r : Nat) (y1 : Int32) (y2 : Int32) (M : MzM), Det (fun P => wp_Mo_stepEnd_28 (K P) r y1 y2 M) := by
  intro r
  induction r with
  | zero =>
    intro y1 y2 M
    exact Det.fls
  | succ r0 ih =>
    intro y1 y2 M
    exact Det.ite (hK _ _) (det_Mo_ch (fun v16 M13 => det_Mo_isLetter (fun v20 M17 => Det.ite (hK _ _) (ih _ _ _))))
theorem det_Mo_stepEnd_26 {α : Type} {K : (α → Prop) → Int32 → MzM → Prop} {y1 : Int32} {M : MzM} (hK : ∀ (z0 : Int32) (z1 : MzM), Det (fun P => K P z0 z1)) : Det (fun P => wp_Mo_stepEnd_26 (K P) y1 M) :=
  Det.fuel (fun r11 => det_Mo_stepEnd_28 hK _ _ _ _)
theorem det_Mo_stepEnd {α : Type} {K : (α → Prop) → Int32 → MzM → Prop} {a1 : Int32} {M : MzM} (hK : ∀ (z0 : Int32) (z1 : MzM), Det (fun P => K P z0 z1)) : Det (fun P => wp_Mo_stepEnd a1 M (K P)) :=
  det_Mo_ch (fun v4 M1 => Det.itn (det_Mo_ch (fun v8 M5 => Det.itn (hK _ _) (det_Mo_stepEnd_26 hK))) (det_Mo_stepEnd_26 hK))
theorem det_Mo_isPath_140 {α : Type} {H76 : (α → Prop) → Int32 → Int32 → Int32 → Int32 → MzM → Prop} {K : (α → Prop) → Int32 → MzM → Prop} {y1 : Int32} {y3 : Int32} {y5 : Int32} {ys0 : Int32} {M : MzM} (hH76 : ∀ (z0 : Int32) (z1 : Int32) (z2 : Int32) (z3 : Int32) (z4 : MzM), Det (fun P => H76 P z0 z1 z2 z3 z4)) (hK : ∀ (z0 : Int32) (z1 : MzM), Det (fun P => K P z0 z1)) : Det (fun P => wp_Mo_isPath_140 (H76 P) (K P) y1 y3 y5 ys0 M) :=
  hH76 _ _ _ _ _
theorem det_Mo_isPath_128 {α : Type} {H76 : (α → Prop) → Int32 → Int32 → Int32 → Int32 → MzM → Prop} {K : (α → Prop) → Int32 → MzM → Prop} {y1 : Int32} {y5 : Int32} {ys0 : Int32} {M : MzM} (hH76 : ∀ (z0 : Int32) (z1 : Int32) (z2 : Int32) (z3 : Int32) (z4 : MzM), Det (fun P => H76 P z0 z1 z2 z3 z4)) (hK : ∀ (z0 : Int32) (z1 : MzM), Det (fun P => K P z0 z1)) : Det (fun P => wp_Mo_isPath_128 (H76 P) (K P) y1 y5 ys0 M) :=
  Det.ite (det_Mo_isPath_140 hH76 hK) (det_Mo_isPath_140 hH76 hK)
theorem det_Mo_isPath_123 {α : Type} {H76 : (α → Prop) → Int32 → Int32 → Int32 → Int32 → MzM → Prop} {K : (α → Prop) → Int32 → MzM → Prop} {y1 : Int32} {y5 : Int32} {M : MzM} (hH76 : ∀ (z0 : Int32) (z1 : Int32) (z2 : Int32) (z3 : Int32) (z4 : MzM), Det (fun P => H76 P z0 z1 z2 z3 z4)) (hK : ∀ (z0 : Int32) (z1 : MzM), Det (fun P => K P z0 z1)) : Det (fun P => wp_Mo_isPath_123 (H76 P) (K P) y1 y5 M) :=
  det_Mo_isPath_128 hH76 hK
theorem det_Mo_isPath_127 {α : Type} {H76 : (α → Prop) → Int32 → Int32 → Int32 → Int32 → MzM → Prop} {K : (α → Prop) → Int32 → MzM → Prop} {y1 : Int32} {y5 : Int32} {M : MzM} (hH76 : ∀ (z0 : Int32) (z1 : Int32) (z2 : Int32) (z3 : Int32) (z4 : MzM), Det (fun P => H76 P z0 z1 z2 z3 z4)) (hK : ∀ (z0 : Int32) (z1 : MzM), Det (fun P => K P z0 z1)) : Det (fun P => wp_Mo_isPath_127 (H76 P) (K P) y1 y5 M) :=
  det_Mo_isPath_128 hH76 hK
theorem det_Mo_isPath_76 {α : Type} {K : (α → Prop) → Int32 → MzM → Prop} (hK : ∀ (z0 : Int32) (z1 : MzM), Det (fun P => K P z0 z1)) : ∀ (r : Nat) (y1 : Int32) (y2 : Int32) (y3 : Int32) (y4 : Int32) (M : MzM), Det (fun P => wp_Mo_isPath_76 (K P) r y1 y2 y3 y4 M) := by
  intro r
  induction r with
  | zero =>
    intro y1 y2 y3 y4 M
    exact Det.fls
  | succ r0 ih =>
    intro y1 y2 y3 y4 M
    exact Det.ite (Det.and (hK _ _)) (Det.ite (Det.and (hK _ _)) (det_Mo_stepEnd (fun v22 M19 => Det.ite (det_Mo_isPath_127 ih hK) (Det.ite (det_Mo_isPath_123 ih hK) (det_Mo_ch (fun v26 M23 => Det.itn (Det.ite (det_Mo_isPath_127 ih hK) (det_Mo_isPath_123 ih hK)) (det_Mo_isPath_127 ih hK)))))))
theorem det_Mo_isPath_72 {α : Type} {K : (α → Prop) → Int32 → MzM → Prop} {y1 : Int32} {y2 : Int32} {ys0 : Int32} {M : MzM} (hK : ∀ (z0 : Int32) (z1 : MzM), Det (fun P => K P z0 z1)) : Det (fun P => wp_Mo_isPath_72 (K P) y1 y2 ys0 M) :=
  Det.fuel (fun r17 => det_Mo_isPath_76 hK _ _ _ _ _ _)
theorem det_Mo_isPath_61 {α : Type} {K : (α → Prop) → Int32 → MzM → Prop} {y1 : Int32} {ys0 : Int32} {M : MzM} (hK : ∀ (z0 : Int32) (z1 : MzM), Det (fun P => K P z0 z1)) : Det (fun P => wp_Mo_isPath_61 (K P) y1 ys0 M) :=
  Det.ite (det_Mo_isPath_72 hK) (det_Mo_isPath_72 hK)
theorem det_Mo_isPath_35 {α : Type} {K : (α → Prop) → Int32 → MzM → Prop} {y1 : Int32} {M : MzM} (hK : ∀ (z0 : Int32) (z1 : MzM), Det (fun P => K P z0 z1)) : Det (fun P => wp_Mo_isPath_35 (K P) y1 M) :=
  det_Mo_ch (fun v14 M11 => Det.itn (det_Mo_isPath_61 hK) (det_Mo_isPath_61 hK))
theorem det_Mo_isPath {α : Type} {K : (α → Prop) → Int32 → MzM → Prop} {M : MzM} (hK : ∀ (z0 : Int32) (z1 : MzM), Det (fun P => K P z0 z1)) : Det (fun P => wp_Mo_isPath M (K P)) :=
  Det.ex (fun j1 => det_Mo_ch (fun v8 M5 => Det.itn (Det.itn (hK _ _) (det_Mo_isPath_35 hK)) (det_Mo_isPath_35 hK)))
theorem det_Mo_argumentGood {α : Type} {K : (α → Prop) → Int32 → MzM → Prop} {a1 : Int32} {M : MzM} (hK : ∀ (z0 : Int32) (z1 : MzM), Det (fun P => K P z0 z1)) : Det (fun P => wp_Mo_argumentGood a1 M (K P)) :=
  Det.ite (det_Mo_hasArgument (fun v4 M1 => Det.and (hK _ _))) (Det.itn (det_Mo_hasArgument (fun v55 M52 => Det.and (hK _ _))) (Det.itn (Det.ex (fun j36 => Det.itn (det_Mo_ch (fun v43 M40 => Det.ite (hK _ _) (det_Mo_ch (fun v47 M44 => Det.itn (hK _ _) (hK _ _))))) (hK _ _))) (Det.itn (det_Mo_hasArgument (fun v28 M25 => Det.ite (hK _ _) (det_Mo_number (fun v32 M29 => Det.ite (hK _ _) (hK _ _))))) (det_Mo_isPathCommand (fun v8 M5 => Det.ite (det_Mo_hasArgument (fun v12 M9 => Det.itn (hK _ _) (hK _ _))) (det_Mo_hasArgument (fun v17 M14 => Det.ite (hK _ _) (det_Mo_isPath (fun v21 M18 => Det.ite (hK _ _) (hK _ _))))))))))
theorem det_Mo_says {α : Type} {K : (α → Prop) → Int32 → MzM → Prop} {a1 : Int32} {a2 : Int32} {a3 : Int32} {M : MzM} (hK : ∀ (z0 : Int32) (z1 : MzM), Det (fun P => K P z0 z1)) : Det (fun P => wp_Mo_says a1 a2 a3 M (K P)) :=
  Det.ex (fun j1 => Det.itn (det_Mo_ch (fun v8 M5 => Det.itn (det_Mo_ch (fun v12 M9 => Det.itn (det_Mo_ch (fun v16 M13 => Det.itn (hK _ _) (hK _ _))) (hK _ _))) (hK _ _))) (hK _ _))
theorem det_Mo_doEarly_147 {α : Type} {K : (α → Prop) → MzM → Prop} {y2 : Int32} {y3 : Int32} {M : MzM} (hK : ∀ (z0 : MzM), Det (fun P => K P z0)) : Det (fun P => wp_Mo_doEarly_147 (K P) y2 y3 M) :=
  Det.itn (det_Mo_answer (fun M95 => hK _)) (Det.ite (det_Mo_answer (fun M88 => hK _)) (det_Mo_answer (fun M91 => hK _)))
theorem det_Mo_doEarly_112 {α : Type} {K : (α → Prop) → MzM → Prop} {y2 : Int32} {ys0 : Int32} {M : MzM} (hK : ∀ (z0 : MzM), Det (fun P => K P z0)) : Det (fun P => wp_Mo_doEarly_112 (K P) y2 ys0 M) :=
  Det.ite (det_Mo_doEarly_147 hK) (Det.ex (fun j72 => Det.all (fun M69 => Det.ex (fun j78 => Det.all (fun M75 => Det.ex (fun j84 => Det.all (fun M81 => det_Mo_doEarly_147 hK)))))))
theorem det_Mo_doEarly_107 {α : Type} {K : (α → Prop) → MzM → Prop} {y2 : Int32} {M : MzM} (hK : ∀ (z0 : MzM), Det (fun P => K P z0)) : Det (fun P => wp_Mo_doEarly_107 (K P) y2 M) :=
  det_Mo_doEarly_112 hK
theorem det_Mo_doEarly_111 {α : Type} {K : (α → Prop) → MzM → Prop} {y2 : Int32} {M : MzM} (hK : ∀ (z0 : MzM), Det (fun P => K P z0)) : Det (fun P => wp_Mo_doEarly_111 (K P) y2 M) :=
  det_Mo_doEarly_112 hK
theorem det_Mo_doEarly {α : Type} {K : (α → Prop) → MzM → Prop} {a1 : Int32} {a2 : Int32} {M : MzM} (hK : ∀ (z0 : MzM), Det (fun P => K P z0)) : Det (fun P => wp_Mo_doEarly a1 a2 M (K P)) :=
  Det.itn (Det.ex (fun j22 => Det.all (fun M19 => Det.ex (fun j28 => Det.all (fun M25 => det_Mo_says (fun v34 M31 => Det.ite (det_Mo_says (fun v38 M35 => Det.ite (Det.ex (fun j42 => Det.all (fun M39 => det_Mo_answer (fun M45 => hK _)))) (Det.ex (fun j51 => Det.all (fun M48 => det_Mo_answer (fun M54 => hK _)))))) (Det.ex (fun j61 => Det.all (fun M58 => det_Mo_answer (fun M64 => hK _)))))))))) (Det.itn (Det.ite (det_Mo_doEarly_107 hK) (Det.itn (det_Mo_says (fun v14 M11 => Det.ite (det_Mo_doEarly_111 hK) (det_Mo_doEarly_107 hK))) (det_Mo_doEarly_111 hK))) (Det.itn (det_Mo_beginSession (fun M4 => det_Mo_answer (fun M7 => hK _))) (det_Mo_answer (fun M1 => hK _))))
theorem det_Mo_nameAt_7 {α : Type} {K : (α → Prop) → Int32 → MzM → Prop} (hK : ∀ (z0 : Int32) (z1 : MzM), Det (fun P => K P z0 z1)) : ∀ (r : Nat) (y1 : Int32) (y3 : Int32) (y4 : Int32) (M : MzM), Det (fun P => wp_Mo_nameAt_7 (K P) r y1 y3 y4 M) := by
  intro r
  induction r with
  | zero =>
    intro y1 y3 y4 M
    exact Det.fls
  | succ r0 ih =>
    intro y1 y3 y4 M
    exact Det.ite (hK _ _) (det_Mo_ch (fun v6 M3 => ih _ _ _ _))
theorem det_Mo_nameAt {α : Type} {K : (α → Prop) → Int32 → MzM → Prop} {a1 : Int32} {a2 : Int32} {M : MzM} (hK : ∀ (z0 : Int32) (z1 : MzM), Det (fun P => K P z0 z1)) : Det (fun P => wp_Mo_nameAt a1 a2 M (K P)) :=
  Det.fuel (fun r1 => det_Mo_nameAt_7 hK _ _ _ _ _)
theorem det_Mo_child_39 {α : Type} {H2 : (α → Prop) → Int32 → Int32 → Int32 → MzM → Prop} {K : (α → Prop) → Int32 → MzM → Prop} {y1 : Int32} {y2 : Int32} {y3 : Int32} {M : MzM} (hH2 : ∀ (z0 : Int32) (z1 : Int32) (z2 : Int32) (z3 : MzM), Det (fun P => H2 P z0 z1 z2 z3)) (hK : ∀ (z0 : Int32) (z1 : MzM), Det (fun P => K P z0 z1)) : Det (fun P => wp_Mo_child_39 (H2 P) (K P) y1 y2 y3 M) :=
  hH2 _ _ _ _
theorem det_Mo_child_2 {α : Type} {K : (α → Prop) → Int32 → MzM → Prop} (hK : ∀ (z0 : Int32) (z1 : MzM), Det (fun P => K P z0 z1)) : ∀ (r : Nat) (y1 : Int32) (y2 : Int32) (y3 : Int32) (M : MzM), Det (fun P => wp_Mo_child_2 (K P) r y1 y2 y3 M) := by
  intro r
  induction r with
  | zero =>
    intro y1 y2 y3 M
    exact Det.fls
  | succ r0 ih =>
    intro y1 y2 y3 M
    exact Det.ite (hK _ _) (Det.ex (fun j3 => Det.ite (det_Mo_child_39 ih hK) (Det.ex (fun j7 => Det.itn (Det.ex (fun j11 => Det.itn (hK _ _) (det_Mo_child_39 ih hK))) (det_Mo_child_39 ih hK)))))
theorem det_Mo_child {α : Type} {K : (α → Prop) → Int32 → MzM → Prop} {a1 : Int32} {a2 : Int32} {M : MzM} (hK : ∀ (z0 : Int32) (z1 : MzM), Det (fun P => K P z0 z1)) : Det (fun P => wp_Mo_child a1 a2 M (K P)) :=
  Det.fuel (fun r1 => det_Mo_child_2 hK _ _ _ _ _)
theorem det_Mo_follow_208 {α : Type} {H63 : (α → Prop) → Int32 → MzM → Prop} {K : (α → Prop) → MzM → Prop} {y3 : Int32} {M : MzM} (hH63 : ∀ (z0 : Int32) (z1 : MzM), Det (fun P => H63 P z0 z1)) (hK : ∀ (z0 : MzM), Det (fun P => K P z0)) : Det (fun P => wp_Mo_follow_208 (H63 P) (K P) y3 M) :=
  hH63 _ _
theorem det_Mo_follow_152 {α : Type} {H63 : (α → Prop) → Int32 → MzM → Prop} {K : (α → Prop) → MzM → Prop} {y3 : Int32} {ys0 : Int32} {M : MzM} (hH63 : ∀ (z0 : Int32) (z1 : MzM), Det (fun P => H63 P z0 z1)) (hK : ∀ (z0 : MzM), Det (fun P => K P z0)) : Det (fun P => wp_Mo_follow_152 (H63 P) (K P) y3 ys0 M) :=
  Det.all (fun M60 => det_Mo_follow_208 hH63 hK)
theorem det_Mo_follow_110 {α : Type} {H63 : (α → Prop) → Int32 → MzM → Prop} {K : (α → Prop) → MzM → Prop} {y2 : Int32} {y3 : Int32} {y4 : Int32} {ys0 : Int32} {M : MzM} (hH63 : ∀ (z0 : Int32) (z1 : MzM), Det (fun P => H63 P z0 z1)) (hK : ∀ (z0 : MzM), Det (fun P => K P z0)) : Det (fun P => wp_Mo_follow_110 (H63 P) (K P) y2 y3 y4 ys0 M) :=
  Det.ex (fun j31 => Det.ite (Det.ite (det_Mo_nameAt (fun v38 M35 => Det.all (fun M39 => det_Mo_child (fun v43 M40 => Det.all (fun M44 => Det.ite (det_Mo_follow_208 hH63 hK) (Det.ex (fun j45 => Det.itn (Det.all (fun M49 => det_Mo_follow_208 hH63 hK)) (det_Mo_follow_208 hH63 hK)))))))) (Det.itn (det_Mo_follow_152 hH63 hK) (Det.ex (fun j52 => det_Mo_follow_152 hH63 hK)))) (Det.all (fun M58 => det_Mo_follow_208 hH63 hK)))
theorem det_Mo_follow_63 {α : Type} {K : (α → Prop) → MzM → Prop} (hK : ∀ (z0 : MzM), Det (fun P => K P z0)) : ∀ (r : Nat) (y2 : Int32) (M : MzM), Det (fun P => wp_Mo_follow_63 (K P) r y2 M) := by
  intro r
  induction r with
  | zero =>
    intro y2 M
    exact Det.fls
  | succ r0 ih =>
    intro y2 M
    exact Det.ex (fun j16 => Det.ite (hK _) (Det.ite (hK _) (det_Mo_stepEnd (fun v23 M20 => det_Mo_ch (fun v27 M24 => Det.itn (det_Mo_follow_110 ih hK) (det_Mo_follow_110 ih hK))))))
theorem det_Mo_follow_55 {α : Type} {K : (α → Prop) → MzM → Prop} {y2 : Int32} {ys0 : Int32} {M : MzM} (hK : ∀ (z0 : MzM), Det (fun P => K P z0)) : Det (fun P => wp_Mo_follow_55 (K P) y2 ys0 M) :=
  Det.all (fun M12 => Det.all (fun M13 => Det.fuel (fun r14 => det_Mo_follow_63 hK _ _ _)))
theorem det_Mo_follow_36 {α : Type} {K : (α → Prop) → MzM → Prop} {y1 : Int32} {ys0 : Int32} {M : MzM} (hK : ∀ (z0 : MzM), Det (fun P => K P z0)) : Det (fun P => wp_Mo_follow_36 (K P) y1 ys0 M) :=
  Det.ite (Det.ex (fun j7 => det_Mo_follow_55 hK)) (det_Mo_follow_55 hK)
theorem det_Mo_follow_18 {α : Type} {K : (α → Prop) → MzM → Prop} {ys0 : Int32} {M : MzM} (hK : ∀ (z0 : MzM), Det (fun P => K P z0)) : Det (fun P => wp_Mo_follow_18 (K P) ys0 M) :=
  Det.ite (det_Mo_follow_36 hK) (det_Mo_follow_36 hK)
theorem det_Mo_follow {α : Type} {K : (α → Prop) → MzM → Prop} {M : MzM} (hK : ∀ (z0 : MzM), Det (fun P => K P z0)) : Det (fun P => wp_Mo_follow M (K P)) :=
  det_Mo_ch (fun v4 M1 => Det.itn (det_Mo_follow_18 hK) (det_Mo_follow_18 hK))
theorem det_Mo_written_20 {α : Type} {K : (α → Prop) → Int32 → MzM → Prop} {y1 : Int32} {M : MzM} (hK : ∀ (z0 : Int32) (z1 : MzM), Det (fun P => K P z0 z1)) : Det (fun P => wp_Mo_written_20 (K P) y1 M) :=
  Det.itn (Det.itn (hK _ _) (hK _ _)) (hK _ _)
theorem det_Mo_written {α : Type} {K : (α → Prop) → Int32 → MzM → Prop} {a1 : Int32} {M : MzM} (hK : ∀ (z0 : Int32) (z1 : MzM), Det (fun P => K P z0 z1)) : Det (fun P => wp_Mo_written a1 M (K P)) :=
  Det.itn (Det.ite (hK _ _) (det_Mo_written_20 hK)) (det_Mo_written_20 hK)
theorem det_Mo_addOut {α : Type} {K : (α → Prop) → MzM → Prop} {a1 : Int32} {M : MzM} (hK : ∀ (z0 : MzM), Det (fun P => K P z0)) : Det (fun P => wp_Mo_addOut a1 M (K P)) :=
  Det.ex (fun j1 => Det.ex (fun j8 => Det.all (fun M5 => Det.ex (fun j11 => Det.ex (fun j18 => Det.all (fun M15 => hK _))))))
theorem det_Mo_finish_20 {α : Type} {K : (α → Prop) → MzM → Prop} {y1 : Int32} {ys0 : Int32} {M : MzM} (hK : ∀ (z0 : MzM), Det (fun P => K P z0)) : Det (fun P => wp_Mo_finish_20 (K P) y1 ys0 M) :=
  det_Mo_endTransfer (fun M10 => Det.ite (Det.all (fun M13 => det_Mo_answer (fun M14 => hK _))) (Det.ex (fun j20 => Det.all (fun M17 => Det.all (fun M23 => det_Mo_answer (fun M24 => hK _))))))
theorem det_Mo_finish {α : Type} {K : (α → Prop) → MzM → Prop} {a1 : Int32} {M : MzM} (hK : ∀ (z0 : MzM), Det (fun P => K P z0)) : Det (fun P => wp_Mo_finish a1 M (K P)) :=
  Det.ex (fun j1 => Det.itn (Det.ex (fun j5 => det_Mo_finish_20 hK)) (det_Mo_finish_20 hK))
theorem det_Mo_beginSending {α : Type} {K : (α → Prop) → MzM → Prop} {a1 : Int32} {M : MzM} (hK : ∀ (z0 : MzM), Det (fun P => K P z0)) : Det (fun P => wp_Mo_beginSending a1 M (K P)) :=
  Det.ex (fun j4 => Det.all (fun M1 => Det.ex (fun j10 => Det.all (fun M7 => Det.ex (fun j16 => Det.all (fun M13 => det_Mo_answer (fun M19 => Det.ex (fun j22 => Det.itn (det_Mo_finish (fun M26 => hK _)) (hK _)))))))))
theorem det_Mo_retrieve_170 {α : Type} {H114 : (α → Prop) → Int32 → MzM → Prop} {K : (α → Prop) → MzM → Prop} {y4 : Int32} {y5 : Int32} {M : MzM} (hH114 : ∀ (z0 : Int32) (z1 : MzM), Det (fun P => H114 P z0 z1)) (hK : ∀ (z0 : MzM), Det (fun P => K P z0)) : Det (fun P => wp_Mo_retrieve_170 (H114 P) (K P) y4 y5 M) :=
  det_Mo_addOut (fun M56 => hH114 _ _)
theorem det_Mo_retrieve_114 {α : Type} {K : (α → Prop) → MzM → Prop} (hK : ∀ (z0 : MzM), Det (fun P => K P z0)) : ∀ (r : Nat) (y4 : Int32) (M : MzM), Det (fun P => wp_Mo_retrieve_114 (K P) r y4 M) := by
  intro r
  induction r with
  | zero =>
    intro y4 M
    exact Det.fls
  | succ r0 ih =>
    intro y4 M
    exact Det.ex (fun j35 => Det.ite (det_Mo_beginSending (fun M39 => hK _)) (Det.ex (fun j42 => Det.itn (Det.ex (fun j46 => Det.ite (det_Mo_retrieve_170 ih hK) (det_Mo_addOut (fun M50 => det_Mo_retrieve_170 ih hK)))) (det_Mo_retrieve_170 ih hK))))
theorem det_Mo_retrieve_90 {α : Type} {K : (α → Prop) → MzM → Prop} {y1 : Int32} {ys0 : Int32} {M : MzM} (hK : ∀ (z0 : MzM), Det (fun P => K P z0)) : Det (fun P => wp_Mo_retrieve_90 (K P) y1 ys0 M) :=
  Det.ite (Det.ex (fun j26 => Det.all (fun M23 => Det.fuel (fun r29 => det_Mo_retrieve_114 hK _ _ _)))) (det_Mo_answer (fun M31 => hK _))
theorem det_Mo_retrieve_24 {α : Type} {K : (α → Prop) → MzM → Prop} {y1 : Int32} {ys0 : Int32} {M : MzM} (hK : ∀ (z0 : MzM), Det (fun P => K P z0)) : Det (fun P => wp_Mo_retrieve_24 (K P) y1 ys0 M) :=
  Det.itn (det_Mo_retrieve_90 hK) (det_Mo_written (fun v10 M7 => Det.ite (Det.ex (fun j11 => Det.itn (det_Mo_retrieve_90 hK) (Det.ex (fun j15 => Det.ite (det_Mo_retrieve_90 hK) (det_Mo_retrieve_90 hK))))) (det_Mo_retrieve_90 hK)))
theorem det_Mo_retrieve_23 {α : Type} {K : (α → Prop) → MzM → Prop} {y1 : Int32} {M : MzM} (hK : ∀ (z0 : MzM), Det (fun P => K P z0)) : Det (fun P => wp_Mo_retrieve_23 (K P) y1 M) :=
  det_Mo_retrieve_24 hK
theorem det_Mo_retrieve {α : Type} {K : (α → Prop) → MzM → Prop} {a1 : Int32} {M : MzM} (hK : ∀ (z0 : MzM), Det (fun P => K P z0)) : Det (fun P => wp_Mo_retrieve a1 M (K P)) :=
  Det.ite (det_Mo_retrieve_23 hK) (Det.ex (fun j1 => Det.ite (det_Mo_retrieve_23 hK) (det_Mo_retrieve_24 hK)))
theorem det_Mo_freeNode_2 {α : Type} {K : (α → Prop) → Int32 → MzM → Prop} (hK : ∀ (z0 : Int32) (z1 : MzM), Det (fun P => K P z0 z1)) : ∀ (r : Nat) (y1 : Int32) (M : MzM), Det (fun P => wp_Mo_freeNode_2 (K P) r y1 M) := by
  intro r
  induction r with
  | zero =>
    intro y1 M
    exact Det.fls
  | succ r0 ih =>
    intro y1 M
    exact Det.ite (hK _ _) (Det.ex (fun j3 => Det.itn (hK _ _) (ih _ _)))
theorem det_Mo_freeNode {α : Type} {K : (α → Prop) → Int32 → MzM → Prop} {M : MzM} (hK : ∀ (z0 : Int32) (z1 : MzM), Det (fun P => K P z0 z1)) : Det (fun P => wp_Mo_freeNode M (K P)) :=
  Det.fuel (fun r1 => det_Mo_freeNode_2 hK _ _ _)
theorem det_Mo_moved_19 {α : Type} {K : (α → Prop) → Int32 → MzM → Prop} {y1 : Int32} {M : MzM} (hK : ∀ (z0 : Int32) (z1 : MzM), Det (fun P => K P z0 z1)) : Det (fun P => wp_Mo_moved_19 (K P) y1 M) :=
  Det.ite (hK _ _) (Det.itn (hK _ _) (hK _ _))
theorem det_Mo_moved {α : Type} {K : (α → Prop) → Int32 → MzM → Prop} {a1 : Int32} {M : MzM} (hK : ∀ (z0 : Int32) (z1 : MzM), Det (fun P => K P z0 z1)) : Det (fun P => wp_Mo_moved a1 M (K P)) :=
  Det.ite (det_Mo_moved_19 hK) (Det.ite (hK _ _) (det_Mo_moved_19 hK))
theorem det_Mo_create {α : Type} {K : (α → Prop) → MzM → Prop} {a1 : Int32} {a2 : Int32} {M : MzM} (hK : ∀ (z0 : MzM), Det (fun P => K P z0)) : Det (fun P => wp_Mo_create a1 a2 M (K P)) :=
  Det.ex (fun j4 => Det.all (fun M1 => Det.and (Det.ex (fun j10 => Det.all (fun M7 => Det.ex (fun j16 => Det.all (fun M13 => Det.ex (fun j22 => Det.all (fun M19 => Det.ex (fun j28 => Det.all (fun M25 => Det.itn (Det.ex (fun j40 => Det.all (fun M37 => hK _))) (Det.ex (fun j34 => Det.all (fun M31 => hK _))))))))))))))
theorem det_Mo_doTransfer_202 {α : Type} {K : (α → Prop) → MzM → Prop} {y4 : Int32} {y5 : Int32} {M : MzM} (hK : ∀ (z0 : MzM), Det (fun P => K P z0)) : Det (fun P => wp_Mo_doTransfer_202 (K P) y4 y5 M) :=
  Det.ex (fun j47 => Det.all (fun M44 => Det.ex (fun j53 => Det.all (fun M50 => Det.ex (fun j59 => Det.all (fun M56 => Det.ex (fun j65 => Det.all (fun M62 => Det.ex (fun j71 => Det.all (fun M68 => det_Mo_answer (fun M74 => hK _)))))))))))
theorem det_Mo_doTransfer_176 {α : Type} {K : (α → Prop) → MzM → Prop} {y4 : Int32} {y5 : Int32} {y6 : Int32} {M : MzM} (hK : ∀ (z0 : MzM), Det (fun P => K P z0)) : Det (fun P => wp_Mo_doTransfer_176 (K P) y4 y5 y6 M) :=
  Det.ite (Det.ite (det_Mo_doTransfer_202 hK) (det_Mo_create (fun M36 => det_Mo_doTransfer_202 hK))) (det_Mo_answer (fun M40 => hK _))
theorem det_Mo_doTransfer_98 {α : Type} {K : (α → Prop) → MzM → Prop} {y4 : Int32} {y5 : Int32} {M : MzM} (hK : ∀ (z0 : MzM), Det (fun P => K P z0)) : Det (fun P => wp_Mo_doTransfer_98 (K P) y4 y5 M) :=
  det_Mo_doTransfer_176 hK
theorem det_Mo_doTransfer_132 {α : Type} {K : (α → Prop) → MzM → Prop} {y3 : Int32} {y4 : Int32} {y5 : Int32} {y6 : Int32} {M : MzM} (hK : ∀ (z0 : MzM), Det (fun P => K P z0)) : Det (fun P => wp_Mo_doTransfer_132 (K P) y3 y4 y5 y6 M) :=
  Det.ex (fun j29 => Det.itn (det_Mo_doTransfer_176 hK) (Det.ite (Det.ite (det_Mo_doTransfer_176 hK) (det_Mo_doTransfer_176 hK)) (det_Mo_doTransfer_176 hK)))
theorem det_Mo_doTransfer_106 {α : Type} {K : (α → Prop) → MzM → Prop} {y3 : Int32} {y4 : Int32} {y5 : Int32} {y6 : Int32} {M : MzM} (hK : ∀ (z0 : MzM), Det (fun P => K P z0)) : Det (fun P => wp_Mo_doTransfer_106 (K P) y3 y4 y5 y6 M) :=
  Det.ite (det_Mo_doTransfer_132 hK) (det_Mo_moved (fun v26 M23 => Det.ite (det_Mo_doTransfer_132 hK) (det_Mo_doTransfer_176 hK)))
theorem det_Mo_doTransfer_64 {α : Type} {K : (α → Prop) → MzM → Prop} {y3 : Int32} {y4 : Int32} {ys0 : Int32} {M : MzM} (hK : ∀ (z0 : MzM), Det (fun P => K P z0)) : Det (fun P => wp_Mo_doTransfer_64 (K P) y3 y4 ys0 M) :=
  Det.ite (Det.ite (det_Mo_doTransfer_106 hK) (det_Mo_doTransfer_98 hK)) (Det.ex (fun j17 => Det.itn (det_Mo_doTransfer_98 hK) (det_Mo_doTransfer_106 hK)))
theorem det_Mo_doTransfer_44 {α : Type} {K : (α → Prop) → MzM → Prop} {y3 : Int32} {ys0 : Int32} {M : MzM} (hK : ∀ (z0 : MzM), Det (fun P => K P z0)) : Det (fun P => wp_Mo_doTransfer_44 (K P) y3 ys0 M) :=
  Det.ite (det_Mo_doTransfer_64 hK) (det_Mo_freeNode (fun v14 M11 => det_Mo_doTransfer_64 hK))
theorem det_Mo_doTransfer_32 {α : Type} {K : (α → Prop) → MzM → Prop} {y1 : Int32} {y2 : Int32} {ys0 : Int32} {M : MzM} (hK : ∀ (z0 : MzM), Det (fun P => K P z0)) : Det (fun P => wp_Mo_doTransfer_32 (K P) y1 y2 ys0 M) :=
  Det.itn (det_Mo_doTransfer_44 hK) (det_Mo_doTransfer_44 hK)
theorem det_Mo_doTransfer {α : Type} {K : (α → Prop) → MzM → Prop} {a1 : Int32} {a2 : Int32} {M : MzM} (hK : ∀ (z0 : MzM), Det (fun P => K P z0)) : Det (fun P => wp_Mo_doTransfer a1 a2 M (K P)) :=
  Det.itn (det_Mo_retrieve (fun M6 => hK _)) (Det.ite (Det.ex (fun j1 => det_Mo_doTransfer_32 hK)) (det_Mo_doTransfer_32 hK))
theorem det_Mo_deleteFile {α : Type} {K : (α → Prop) → Int32 → MzM → Prop} {M : MzM} (hK : ∀ (z0 : Int32) (z1 : MzM), Det (fun P => K P z0 z1)) : Det (fun P => wp_Mo_deleteFile M (K P)) :=
  Det.ite (hK _ _) (Det.ex (fun j1 => Det.itn (hK _ _) (det_Mo_moved (fun v8 M5 => Det.ite (Det.ex (fun j12 => Det.all (fun M9 => hK _ _))) (hK _ _)))))
theorem det_Mo_inside_32 {α : Type} {H4 : (α → Prop) → Int32 → Int32 → Int32 → MzM → Prop} {K : (α → Prop) → Int32 → MzM → Prop} {y1 : Int32} {y2 : Int32} {y3 : Int32} {M : MzM} (hH4 : ∀ (z0 : Int32) (z1 : Int32) (z2 : Int32) (z3 : MzM), Det (fun P => H4 P z0 z1 z2 z3)) (hK : ∀ (z0 : Int32) (z1 : MzM), Det (fun P => K P z0 z1)) : Det (fun P => wp_Mo_inside_32 (H4 P) (K P) y1 y2 y3 M) :=
  hH4 _ _ _ _
theorem det_Mo_inside_4 {α : Type} {K : (α → Prop) → Int32 → MzM → Prop} (hK : ∀ (z0 : Int32) (z1 : MzM), Det (fun P => K P z0 z1)) : ∀ (r : Nat) (y1 : Int32) (y2 : Int32) (y3 : Int32) (M : MzM), Det (fun P => wp_Mo_inside_4 (K P) r y1 y2 y3 M) := by
  intro r
  induction r with
  | zero =>
    intro y1 y2 y3 M
    exact Det.fls
  | succ r0 ih =>
    intro y1 y2 y3 M
    exact Det.ite (hK _ _) (Det.ex (fun j3 => Det.ite (det_Mo_inside_32 ih hK) (Det.ex (fun j7 => Det.itn (det_Mo_inside_32 ih hK) (det_Mo_inside_32 ih hK)))))
theorem det_Mo_inside {α : Type} {K : (α → Prop) → Int32 → MzM → Prop} {a1 : Int32} {M : MzM} (hK : ∀ (z0 : Int32) (z1 : MzM), Det (fun P => K P z0 z1)) : Det (fun P => wp_Mo_inside a1 M (K P)) :=
  Det.fuel (fun r1 => det_Mo_inside_4 hK _ _ _ _ _)
theorem det_Mo_removeDirectory {α : Type} {K : (α → Prop) → Int32 → MzM → Prop} {M : MzM} (hK : ∀ (z0 : Int32) (z1 : MzM), Det (fun P => K P z0 z1)) : Det (fun P => wp_Mo_removeDirectory M (K P)) :=
  Det.ite (hK _ _) (Det.ex (fun j1 => Det.itn (det_Mo_inside (fun v8 M5 => Det.ite (hK _ _) (Det.ite (hK _ _) (Det.itn (hK _ _) (Det.ex (fun j12 => Det.all (fun M9 => hK _ _))))))) (hK _ _)))
theorem det_Mo_isBelow_2 {α : Type} {K : (α → Prop) → Int32 → MzM → Prop} (hK : ∀ (z0 : Int32) (z1 : MzM), Det (fun P => K P z0 z1)) : ∀ (r : Nat) (y2 : Int32) (y3 : Int32) (M : MzM), Det (fun P => wp_Mo_isBelow_2 (K P) r y2 y3 M) := by
  intro r
  induction r with
  | zero =>
    intro y2 y3 M
    exact Det.fls
  | succ r0 ih =>
    intro y2 y3 M
    exact Det.ite (Det.itn (hK _ _) (hK _ _)) (Det.ite (Det.itn (hK _ _) (hK _ _)) (Det.ex (fun j5 => ih _ _ _)))
theorem det_Mo_isBelow {α : Type} {K : (α → Prop) → Int32 → MzM → Prop} {a1 : Int32} {a2 : Int32} {M : MzM} (hK : ∀ (z0 : Int32) (z1 : MzM), Det (fun P => K P z0 z1)) : Det (fun P => wp_Mo_isBelow a1 a2 M (K P)) :=
  Det.fuel (fun r1 => det_Mo_isBelow_2 hK _ _ _ _)
theorem det_Mo_renameTo_61 {α : Type} {K : (α → Prop) → Int32 → MzM → Prop} {y1 : Int32} {M : MzM} (hK : ∀ (z0 : Int32) (z1 : MzM), Det (fun P => K P z0 z1)) : Det (fun P => wp_Mo_renameTo_61 (K P) y1 M) :=
  Det.ex (fun j26 => Det.all (fun M23 => Det.ex (fun j32 => Det.all (fun M29 => hK _ _))))
theorem det_Mo_renameTo {α : Type} {K : (α → Prop) → Int32 → MzM → Prop} {a1 : Int32} {M : MzM} (hK : ∀ (z0 : Int32) (z1 : MzM), Det (fun P => K P z0 z1)) : Det (fun P => wp_Mo_renameTo a1 M (K P)) :=
  Det.ite (Det.ex (fun j1 => Det.ite (hK _ _) (Det.ite (hK _ _) (det_Mo_isBelow (fun v8 M5 => Det.ite (Det.ex (fun j9 => Det.ite (det_Mo_renameTo_61 hK) (det_Mo_moved (fun v16 M13 => Det.ite (det_Mo_renameTo_61 hK) (hK _ _))))) (hK _ _)))))) (hK _ _)
theorem det_Mo_doPath_132 {α : Type} {K : (α → Prop) → MzM → Prop} {y3 : Int32} {ys0 : Int32} {ys1 : Int32} {M : MzM} (hK : ∀ (z0 : MzM), Det (fun P => K P z0)) : Det (fun P => wp_Mo_doPath_132 (K P) y3 ys0 ys1 M) :=
  Det.ex (fun j69 => Det.all (fun M66 => Det.ite (det_Mo_answer (fun M72 => hK _)) (det_Mo_answer (fun M75 => hK _))))
theorem det_Mo_doPath_215 {α : Type} {K : (α → Prop) → MzM → Prop} {M : MzM} (hK : ∀ (z0 : MzM), Det (fun P => K P z0)) : Det (fun P => wp_Mo_doPath_215 (K P) M) :=
  Det.ite (det_Mo_answer (fun M79 => hK _)) (det_Mo_answer (fun M82 => hK _))
theorem det_Mo_doPath_282 {α : Type} {K : (α → Prop) → MzM → Prop} {ys0 : Int32} {ys1 : Int32} {M : MzM} (hK : ∀ (z0 : MzM), Det (fun P => K P z0)) : Det (fun P => wp_Mo_doPath_282 (K P) ys0 ys1 M) :=
  Det.ex (fun j89 => Det.all (fun M86 => Det.ite (det_Mo_answer (fun M92 => hK _)) (det_Mo_answer (fun M95 => hK _))))
theorem det_Mo_doPath_24 {α : Type} {K : (α → Prop) → MzM → Prop} {y1 : Int32} {y2 : Int32} {ys0 : Int32} {M : MzM} (hK : ∀ (z0 : MzM), Det (fun P => K P z0)) : Det (fun P => wp_Mo_doPath_24 (K P) y1 y2 ys0 M) :=
  det_Mo_freeNode (fun v10 M7 => Det.sw6 (by decide) (Det.ite (Det.ex (fun j11 => det_Mo_doPath_132 hK)) (det_Mo_doPath_132 hK)) (Det.ite (det_Mo_answer (fun M16 => hK _)) (Det.ex (fun j19 => Det.ite (det_Mo_answer (fun M23 => hK _)) (Det.ex (fun j26 => det_Mo_replySize (fun M30 => hK _)))))) (det_Mo_deleteFile (fun v38 M35 => det_Mo_answer (fun M39 => hK _))) (Det.ite (det_Mo_doPath_215 hK) (Det.ite (det_Mo_create (fun M42 => det_Mo_replyPath (fun M45 => hK _))) (det_Mo_doPath_215 hK))) (det_Mo_removeDirectory (fun v53 M50 => det_Mo_answer (fun M54 => hK _))) (Det.ite (det_Mo_doPath_282 hK) (det_Mo_doPath_282 hK)) (det_Mo_renameTo (fun v61 M58 => det_Mo_answer (fun M62 => hK _))))
theorem det_Mo_doPath_23 {α : Type} {K : (α → Prop) → MzM → Prop} {y1 : Int32} {y2 : Int32} {M : MzM} (hK : ∀ (z0 : MzM), Det (fun P => K P z0)) : Det (fun P => wp_Mo_doPath_23 (K P) y1 y2 M) :=
  det_Mo_doPath_24 hK
theorem det_Mo_doPath {α : Type} {K : (α → Prop) → MzM → Prop} {a1 : Int32} {a2 : Int32} {M : MzM} (hK : ∀ (z0 : MzM), Det (fun P => K P z0)) : Det (fun P => wp_Mo_doPath a1 a2 M (K P)) :=
  Det.ite (det_Mo_doPath_23 hK) (Det.ex (fun j1 => Det.itn (det_Mo_doPath_24 hK) (det_Mo_doPath_23 hK)))
theorem det_Mo_sendNames_89 {α : Type} {H12 : (α → Prop) → Int32 → MzM → Prop} {K : (α → Prop) → MzM → Prop} {y1 : Int32} {M : MzM} (hH12 : ∀ (z0 : Int32) (z1 : MzM), Det (fun P => H12 P z0 z1)) (hK : ∀ (z0 : MzM), Det (fun P => K P z0)) : Det (fun P => wp_Mo_sendNames_89 (H12 P) (K P) y1 M) :=
  hH12 _ _
theorem det_Mo_sendNames_55 {α : Type} {H12 : (α → Prop) → Int32 → MzM → Prop} {K : (α → Prop) → MzM → Prop} (hH12 : ∀ (z0 : Int32) (z1 : MzM), Det (fun P => H12 P z0 z1)) (hK : ∀ (z0 : MzM), Det (fun P => K P z0)) : ∀ (r : Nat) (y1 : Int32) (y2 : Int32) (M : MzM), Det (fun P => wp_Mo_sendNames_55 (H12 P) (K P) r y1 y2 M) := by
  intro r
  induction r with
  | zero =>
    intro y1 y2 M
    exact Det.fls
  | succ r0 ih =>
    intro y1 y2 M
    exact Det.ite (det_Mo_addOut (fun M33 => det_Mo_addOut (fun M36 => det_Mo_sendNames_89 hH12 hK))) (det_Mo_addOut (fun M39 => ih _ _ _))
theorem det_Mo_sendNames_12 {α : Type} {K : (α → Prop) → MzM → Prop} (hK : ∀ (z0 : MzM), Det (fun P => K P z0)) : ∀ (r : Nat) (y1 : Int32) (M : MzM), Det (fun P => wp_Mo_sendNames_12 (K P) r y1 M) := by
  intro r
  induction r with
  | zero =>
    intro y1 M
    exact Det.fls
  | succ r0 ih =>
    intro y1 M
    exact Det.ite (det_Mo_beginSending (fun M9 => hK _)) (Det.ex (fun j12 => Det.ite (det_Mo_sendNames_89 ih hK) (Det.ex (fun j16 => Det.ex (fun j20 => Det.ite (Det.ex (fun j24 => Det.fuel (fun r28 => det_Mo_sendNames_55 ih hK _ _ _ _))) (det_Mo_sendNames_89 ih hK))))))
theorem det_Mo_sendNames {α : Type} {K : (α → Prop) → MzM → Prop} {M : MzM} (hK : ∀ (z0 : MzM), Det (fun P => K P z0)) : Det (fun P => wp_Mo_sendNames M (K P)) :=
  Det.ex (fun j4 => Det.all (fun M1 => Det.fuel (fun r7 => det_Mo_sendNames_12 hK _ _ _)))
theorem det_Mo_doOther {α : Type} {K : (α → Prop) → MzM → Prop} {a1 : Int32} {M : MzM} (hK : ∀ (z0 : MzM), Det (fun P => K P z0)) : Det (fun P => wp_Mo_doOther a1 M (K P)) :=
  Det.sw6 (by decide) (det_Mo_ch (fun v4 M1 => Det.itn (Det.ex (fun j17 => Det.all (fun M14 => det_Mo_answer (fun M20 => hK _)))) (Det.ex (fun j8 => Det.all (fun M5 => det_Mo_answer (fun M11 => hK _)))))) (Det.ex (fun j24 => det_Mo_replyPath (fun M28 => hK _))) (Det.ex (fun j31 => Det.ex (fun j35 => Det.ite (Det.ex (fun j39 => Det.ex (fun j43 => Det.ex (fun j50 => Det.all (fun M47 => det_Mo_answer (fun M53 => hK _)))))) (Det.ex (fun j59 => Det.all (fun M56 => det_Mo_answer (fun M62 => hK _))))))) (Det.ex (fun j69 => Det.all (fun M66 => det_Mo_answer (fun M72 => hK _)))) (det_Mo_number (fun v78 M75 => Det.ex (fun j82 => Det.all (fun M79 => det_Mo_answer (fun M85 => hK _))))) (Det.ex (fun j88 => Det.ite (det_Mo_endTransfer (fun M92 => det_Mo_answer (fun M95 => hK _))) (det_Mo_answer (fun M98 => det_Mo_endTransfer (fun M101 => det_Mo_answer (fun M104 => hK _)))))) (Det.ex (fun j108 => Det.ite (det_Mo_answer (fun M112 => hK _)) (det_Mo_sendNames (fun M115 => hK _))))
theorem det_Mo_doLine_255 {α : Type} {K : (α → Prop) → MzM → Prop} {y1 : Int32} {y2 : Int32} {y3 : Int32} {y4 : Int32} {y5 : Int32} {M : MzM} (hK : ∀ (z0 : MzM), Det (fun P => K P z0)) : Det (fun P => wp_Mo_doLine_255 (K P) y1 y2 y3 y4 y5 M) :=
  Det.ite (det_Mo_isPathCommand (fun v92 M89 => Det.ite (det_Mo_doOther (fun M93 => hK _)) (det_Mo_follow (fun M96 => Det.ite (det_Mo_doPath (fun M99 => hK _)) (Det.ite (det_Mo_doPath (fun M102 => hK _)) (det_Mo_doTransfer (fun M105 => hK _))))))) (det_Mo_doEarly (fun M111 => hK _))
theorem det_Mo_doLine_227 {α : Type} {K : (α → Prop) → MzM → Prop} {y1 : Int32} {y2 : Int32} {y3 : Int32} {y4 : Int32} {y5 : Int32} {y6 : Int32} {M : MzM} (hK : ∀ (z0 : MzM), Det (fun P => K P z0)) : Det (fun P => wp_Mo_doLine_227 (K P) y1 y2 y3 y4 y5 y6 M) :=
  Det.ite (det_Mo_doLine_255 hK) (Det.ex (fun j80 => Det.ite (det_Mo_doLine_255 hK) (det_Mo_answer (fun M84 => hK _))))
theorem det_Mo_doLine_186 {α : Type} {K : (α → Prop) → MzM → Prop} {y1 : Int32} {y2 : Int32} {y3 : Int32} {y4 : Int32} {y5 : Int32} {y6 : Int32} {M : MzM} (hK : ∀ (z0 : MzM), Det (fun P => K P z0)) : Det (fun P => wp_Mo_doLine_186 (K P) y1 y2 y3 y4 y5 y6 M) :=
  Det.ex (fun j69 => Det.ite (det_Mo_doLine_227 hK) (Det.ite (det_Mo_doLine_227 hK) (Det.ite (det_Mo_doLine_227 hK) (Det.ite (det_Mo_doLine_227 hK) (det_Mo_answer (fun M73 => hK _))))))
theorem det_Mo_doLine_111 {α : Type} {K : (α → Prop) → MzM → Prop} {y1 : Int32} {y2 : Int32} {y3 : Int32} {y4 : Int32} {y5 : Int32} {ys0 : Int32} {M : MzM} (hK : ∀ (z0 : MzM), Det (fun P => K P z0)) : Det (fun P => wp_Mo_doLine_111 (K P) y1 y2 y3 y4 y5 ys0 M) :=
  Det.ex (fun j40 => Det.itn (Det.itn (det_Mo_answer (fun M64 => hK _)) (det_Mo_argumentGood (fun v50 M47 => Det.itn (det_Mo_answer (fun M60 => hK _)) (Det.ex (fun j51 => Det.itn (Det.itn (det_Mo_answer (fun M55 => hK _)) (det_Mo_doLine_186 hK)) (det_Mo_doLine_186 hK)))))) (det_Mo_answer (fun M44 => hK _)))
theorem det_Mo_doLine_106 {α : Type} {K : (α → Prop) → MzM → Prop} {y1 : Int32} {y2 : Int32} {y3 : Int32} {y4 : Int32} {y5 : Int32} {M : MzM} (hK : ∀ (z0 : MzM), Det (fun P => K P z0)) : Det (fun P => wp_Mo_doLine_106 (K P) y1 y2 y3 y4 y5 M) :=
  det_Mo_doLine_111 hK
theorem det_Mo_doLine_83 {α : Type} {K : (α → Prop) → MzM → Prop} {y1 : Int32} {y2 : Int32} {y3 : Int32} {y4 : Int32} {ys0 : Int32} {M : MzM} (hK : ∀ (z0 : MzM), Det (fun P => K P z0)) : Det (fun P => wp_Mo_doLine_83 (K P) y1 y2 y3 y4 ys0 M) :=
  Det.ite (det_Mo_doLine_106 hK) (Det.ite (det_Mo_doLine_106 hK) (Det.ite (det_Mo_doLine_111 hK) (det_Mo_doLine_106 hK)))
theorem det_Mo_doLine_82 {α : Type} {K : (α → Prop) → MzM → Prop} {y1 : Int32} {y2 : Int32} {y3 : Int32} {y4 : Int32} {M : MzM} (hK : ∀ (z0 : MzM), Det (fun P => K P z0)) : Det (fun P => wp_Mo_doLine_82 (K P) y1 y2 y3 y4 M) :=
  det_Mo_doLine_83 hK
theorem det_Mo_doLine {α : Type} {K : (α → Prop) → MzM → Prop} {M : MzM} (hK : ∀ (z0 : MzM), Det (fun P => K P z0)) : Det (fun P => wp_Mo_doLine M (K P)) :=
  Det.ex (fun j1 => Det.ex (fun j5 => Det.ex (fun j9 => Det.ex (fun j16 => Det.all (fun M13 => Det.ex (fun j22 => Det.all (fun M19 => Det.ex (fun j28 => Det.all (fun M25 => det_Mo_command (fun v34 M31 => Det.ite (det_Mo_doLine_82 hK) (Det.ite (det_Mo_doLine_82 hK) (det_Mo_doLine_83 hK))))))))))))
theorem det_Mo_addToLine {α : Type} {K : (α → Prop) → MzM → Prop} {a1 : Int32} {a2 : Int32} {M : MzM} (hK : ∀ (z0 : MzM), Det (fun P => K P z0)) : Det (fun P => wp_Mo_addToLine a1 a2 M (K P)) :=
  Det.ex (fun j1 => Det.itn (Det.ex (fun j28 => Det.all (fun M25 => hK _))) (Det.ex (fun j5 => Det.ex (fun j12 => Det.all (fun M9 => Det.ex (fun j15 => Det.ex (fun j22 => Det.all (fun M19 => hK _))))))))
theorem det_Mo_plain_65 {α : Type} {K : (α → Prop) → MzM → Prop} {y1 : Int32} {y2 : Int32} {y3 : Int32} {M : MzM} (hK : ∀ (z0 : MzM), Det (fun P => K P z0)) : Det (fun P => wp_Mo_plain_65 (K P) y1 y2 y3 M) :=
  Det.ite (Det.ite (hK _) (det_Mo_addToLine (fun M31 => hK _))) (Det.itn (det_Mo_addToLine (fun M39 => hK _)) (Det.ite (hK _) (det_Mo_addToLine (fun M35 => hK _))))
theorem det_Mo_plain_23 {α : Type} {K : (α → Prop) → MzM → Prop} {y1 : Int32} {y2 : Int32} {y3 : Int32} {ys0 : Int32} {ys1 : Int32} {M : MzM} (hK : ∀ (z0 : MzM), Det (fun P => K P z0)) : Det (fun P => wp_Mo_plain_23 (K P) y1 y2 y3 ys0 ys1 M) :=
  Det.and (Det.ex (fun j9 => Det.all (fun M6 => Det.ite (det_Mo_plain_65 hK) (Det.itn (Det.all (fun M12 => Det.all (fun M13 => det_Mo_doLine (fun M14 => Det.ex (fun j20 => Det.all (fun M17 => Det.ex (fun j26 => Det.all (fun M23 => hK _)))))))) (det_Mo_plain_65 hK)))))
theorem det_Mo_plain {α : Type} {K : (α → Prop) → MzM → Prop} {a1 : Int32} {a2 : Int32} {M : MzM} (hK : ∀ (z0 : MzM), Det (fun P => K P z0)) : Det (fun P => wp_Mo_plain a1 a2 M (K P)) :=
  Det.ex (fun j1 => Det.itn (det_Mo_plain_23 hK) (det_Mo_plain_23 hK))
theorem det_Mo_take1_127 {α : Type} {K : (α → Prop) → MzM → Prop} {y1 : Int32} {y2 : Int32} {ys0 : Int32} {ys1 : Int32} {M : MzM} (hK : ∀ (z0 : MzM), Det (fun P => K P z0)) : Det (fun P => wp_Mo_take1_127 (K P) y1 y2 ys0 ys1 M) :=
  Det.ex (fun j42 => Det.all (fun M39 => Det.itn (det_Mo_plain (fun M45 => hK _)) (hK _)))
theorem det_Mo_take1_126 {α : Type} {K : (α → Prop) → MzM → Prop} {y1 : Int32} {y2 : Int32} {ys0 : Int32} {M : MzM} (hK : ∀ (z0 : MzM), Det (fun P => K P z0)) : Det (fun P => wp_Mo_take1_126 (K P) y1 y2 ys0 M) :=
  det_Mo_take1_127 hK
theorem det_Mo_take1_74 {α : Type} {K : (α → Prop) → MzM → Prop} {y1 : Int32} {y2 : Int32} {ys0 : Int32} {ys1 : Int32} {M : MzM} (hK : ∀ (z0 : MzM), Det (fun P => K P z0)) : Det (fun P => wp_Mo_take1_74 (K P) y1 y2 ys0 ys1 M) :=
  det_Mo_put (fun M68 => det_Mo_put (fun M71 => Det.ex (fun j77 => Det.all (fun M74 => hK _))))
theorem det_Mo_take1_34 {α : Type} {K : (α → Prop) → MzM → Prop} {y1 : Int32} {y2 : Int32} {M : MzM} (hK : ∀ (z0 : MzM), Det (fun P => K P z0)) : Det (fun P => wp_Mo_take1_34 (K P) y1 y2 M) :=
  det_Mo_hasRoom (fun v52 M49 => Det.ite (Det.ex (fun j56 => Det.all (fun M53 => hK _))) (det_Mo_put (fun M59 => Det.ex (fun j62 => Det.itn (det_Mo_take1_74 hK) (det_Mo_take1_74 hK)))))
theorem det_Mo_take1 {α : Type} {K : (α → Prop) → MzM → Prop} {a1 : Int32} {a2 : Int32} {M : MzM} (hK : ∀ (z0 : MzM), Det (fun P => K P z0)) : Det (fun P => wp_Mo_take1 a1 a2 M (K P)) :=
  Det.ex (fun j1 => Det.ite (Det.ex (fun j5 => Det.itn (Det.ite (det_Mo_take1_126 hK) (Det.ite (det_Mo_take1_126 hK) (det_Mo_take1_127 hK))) (Det.itn (Det.ex (fun j15 => Det.all (fun M12 => hK _))) (det_Mo_plain (fun M9 => hK _))))) (Det.ex (fun j22 => Det.ite (det_Mo_take1_34 hK) (Det.ex (fun j26 => Det.itn (det_Mo_take1_34 hK) (Det.ex (fun j33 => Det.all (fun M30 => hK _))))))))
theorem det_Mo_takeOne {α : Type} {K : (α → Prop) → Int32 → MzM → Prop} {a1 : Int32} {M : MzM} (hK : ∀ (z0 : Int32) (z1 : MzM), Det (fun P => K P z0 z1)) : Det (fun P => wp_Mo_takeOne a1 M (K P)) :=
  Det.ex (fun j1 => Det.ex (fun j5 => Det.ex (fun j9 => Det.ex (fun j16 => Det.all (fun M13 => Det.ex (fun j19 => Det.ex (fun j23 => Det.itn (det_Mo_finish (fun M27 => hK _ _)) (hK _ _))))))))
theorem det_take1 {a b : Int32} {M : MzM} : Det (fun P : MzM → Prop => wp_Mo_take1 a b M P) := det_Mo_take1 (K := fun P M' => P M') (fun M' => Det.ret M')
theorem det_takeOne {a : Int32} {M : MzM} : Det (fun P : Int32 × MzM → Prop => wp_Mo_takeOne a M (fun v M' => P (v, M'))) := det_Mo_takeOne (K := fun P v M' => P (v, M')) (fun v M' => Det.ret (v, M'))
