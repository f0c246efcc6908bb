/-! a virtual call whose callee may throw: to where it ended -/
set_option maxHeartbeats 4000000 in
theorem mz_siteX {p : Program} {l : Launch} {e : Env} {R : Room} {s : State} {m : MethodId} {args : Array Value} {below : List Frame} {meth : Method} {c : Code} {T : State} {locs : List Loc} {cells slots : Nat} (X : Stand p l e R s m args below meth c T locs cells slots) (hexec : p.tables.exec = Jvm.exec) {own C : String} {index n : Nat} {mm' : MzT} {rm : Room} {P : Array Value → State → Prop} {Q : Array Value → State → Outcome → State → Prop}
    (hall : ∀ w ∈ mzAll, w.before args s = true) (hown : s.vm.findClass own = some m.cls) (hlink : Cond.methodLink own index mm'.1 ∈ mzAll) (hinst : Cond.instanceMethod mm'.1 ∈ mzAll) (hsel : Cond.selects C mm'.1 mm'.1 ∈ mzAll) (hcode : Cond.code mm'.1 mm'.2.1 mm'.2.2.1 mm'.2.2.2 ∈ mzAll) (hini : Cond.initialized mm'.1.cls ∈ mzAll) (hy : mm'.1.cls ≠ "java/lang/invoke/MethodHandle" ∧ mm'.1.cls ≠ "java/lang/invoke/VarHandle" ∧ (parseMethodDescriptor mm'.1.desc).map (fun d => d.parameters.length) = some n)
    (hM : MetFree l mm'.1 (headSpec (mzWs mm') rm) P (fun _ _ _ _ _ => True) Q) (hblind : FrameBlind P) (hfr : rm.frames + 1 ≤ R.frames) (hlo : 8 + (mm'.2.2.1 + 11) + rm.locals ≤ R.locals) (hc : cells + rm.cells ≤ R.cells) (hs : slots + rm.slots ≤ R.slots)
    {b : Addr} {cellB : Cell} (hcell : T.heap[b]? = some cellB) (hobj : cellB.vm.isStatics = false) (hcls : s.vm.findClass C = some cellB.cls) {g : JFrame} (hg : g.method = m) (hsize : g.locals.size = c.maxLocals) {As rest : List Value} (hn : As.length = n) (hstack : g.stack = As.reverse ++ .ref b :: rest) (hW : 2 * g.monitorRoom + (rest.map fun v => v.category).sum ≤ 8) (hdg : decode c.code g.pc = .ok (.invokevirtual index, 3))
    (hP : ∀ vm₁, s.WarmedH vm₁ → P (Value.ref b :: As).toArray (T.setVm vm₁)) :
    ∃ (vm₁ : Vm) (mk : MethodId) (oc : Outcome) (s₂ : State), Stand p l e R s m args below meth c (T.setVm vm₁) locs cells slots ∧ Steps p.tables e below (T.setTop g) s₂ ∧ Ended s₂ (.java { g with stack := rest } :: below) oc ∧ Q (Value.ref b :: As).toArray ((T.setVm vm₁).calling { g with stack := rest } mk (Value.ref b :: As).toArray) oc s₂ := by
  have good : ∀ w ∈ mzWs mm', w ∈ mzAll := by
    intro w hw
    rcases List.mem_cons.mp hw with rfl | hw
    · exact hcode
    · exact hw
  obtain ⟨mk, methM, hnamed, hmethM, hstM, habM⟩ := Cond.instanceMethod_spec (hall _ hinst)
  obtain ⟨methM', cM, hmethM', hcM, -, hlM, -, -, -, hsigM⟩ := Cond.code_spec hnamed (hall _ hcode)
  cases hmethM.symm.trans hmethM'
  obtain ⟨c2, r2, m2, q1, q2, q3, q4, kP, hkP, hkPi⟩ := Cond.selects_spec (hall _ hsel)
  cases hcls.symm.trans q1
  cases (State.methodFound?_of_named hnamed ⟨hy.1, hy.2.1⟩).symm.trans q2
  cases hnamed.symm.trans q3
  have hselP : selectMethod e.platform s.vm cellB.cls mk = .method mk := by rw [Launch.admits_selectMethod X.admits]; exact q4
  have hlen : As.length = methM.sig.parameters.length := by
    have h2 := hy.2.2
    rw [hsigM] at h2
    exact hn.trans (Option.some.inj h2).symm
  obtain ⟨vm₁, X₁, hstep₁⟩ := X.invokevirtual hexec hown (hall _ hlink) hnamed hmethM hstM hkP hkPi ⟨hy.1, hy.2.1⟩ (a := b) (cell := cellB) hcell (fun z h => by rw [h] at hobj; cases hobj) hselP hmethM habM hkP hkPi (g := g) hg (argsL := As) (rest := rest) hlen hstack hdg
  have hnU : (T.setVm vm₁).methodNamed? mm'.1 = some mk := X₁.named hnamed
  have hat : ∀ w ∈ mzAll, ∀ a' U, s.WarmedH U.vm → w.before a' U = true := fun w hw a' U hW => word_at hW (mzAll_good w hw) (hall w hw)
  obtain ⟨methY, cY, hmY, hcY, -, hlY, -, -, -, -⟩ := Cond.code_spec hnU (hat _ hcode (Value.ref b :: As).toArray (T.setVm vm₁) X₁.warmed)
  obtain ⟨kY, hkY, -⟩ := className_of_methodNamed hnU
  have hinitY : kY.init = .initialized := Cond.initialized_spec (findClass_of_methodNamed hnU) hkY (hat _ hini (Value.ref b :: As).toArray (T.setVm vm₁) X₁.warmed)
  have hAt : At (T.setVm vm₁) ({ g with stack := rest } : JFrame).method c below := by
    show At (T.setVm vm₁) g.method c below
    rw [hg]; exact X₁.here
  have happ : (headSpec (mzWs mm') rm).appliesLoose mm'.1 e.platform ((T.setVm vm₁).calling { g with stack := rest } mk (Value.ref b :: As).toArray) = true :=
    Spec.appliesLoose_calling (g := { g with stack := rest }) hAt hdg hnU hkY hinitY (X₁.room_calling (g := { g with stack := rest }) (R' := (headSpec (mzWs mm') rm).room) hsize hmY hcY hfr (by rw [hlY]; have h8 : 2 * ({ g with stack := rest } : JFrame).monitorRoom + (({ g with stack := rest } : JFrame).stack.map fun v => v.category).sum ≤ 8 := hW; show _ + (mm'.2.2.1 + 11) + rm.locals ≤ _; omega) hc hs) (atoms_intro fun w hw => hat w (good w hw) _ _ X₁.warmed)
  obtain ⟨mid, hmid⟩ := hAt.above
  have hfr' : ((T.setVm vm₁).setTop { g with stack := rest }).frames = (.java { g with stack := rest } :: mid) ++ below := by rw [State.frames_setTop' _ hAt.top, hmid]; rfl
  obtain ⟨oc, s₂, hsteps, -, hend, hq⟩ := Steps.callFree hM p X₁.admits X₁.cas X₁.clock (acts := []) hfr' happ (hblind _ _ { g with stack := rest } mk (hP vm₁ X₁.warmed)) trivial
  rw [State.frames_setTop' _ hAt.top, X₁.tail] at hend
  exact ⟨vm₁, mk, oc, s₂, X₁, hstep₁ _ (fun acts => by rw [doInvoke_state]; exact hsteps), hend, hq⟩
theorem mz_o1 {D : va_G} {cl : List vw_C} {cO : ClassId} {o : Nat} {f : Nat → Int64} {x : Int64} {H : Heap} (hx : f 0 = x) (h : va_at D cl (o, .inl (cO, 1, .inr (.inl f))) H) : va_at D cl (o, .inl (cO, 1, .inr (.inl (fun _ => x)))) H := by
  have h' : H[o]? = some (arrV cO 1 (fun j => .long (f j))) := h
  have e : (fun j : Fin 1 => Value.long (f j.val)) = fun _ => Value.long x := by
    funext j
    have h0 : j.val = 0 := by have := j.isLt; omega
    rw [h0, hx]
  show H[o]? = some (arrV cO 1 (fun _ => .long x))
  rw [h']
  simp only [arrV]
  rw [e]
def mzO (cO : ClassId) (o : Nat) (ov : Int64) : va_W := [(o, .inl (cO, 1, .inr (.inl (fun _ => ov))))]
def hlO (G : MzG) (B : MzB) (cO : ClassId) (o : Nat) (ov : Int64) (A : Nat → Prop) (s : State) (H : Heap) : Prop := va_P G.1 vwCl (mzO cO o ov) H ∧ va_K G.1 vwCl [(cO, .long)] s ∧ A o ∧ (∀ i ∈ mz_dm B, mz_ad B i ≠ o) ∧ o < H.size
def hlA (B : MzB) (o sz : Nat) : Nat → Prop := fun q => (∃ i ∈ mz_dm B, mz_ad B i = q) ∨ q = o ∨ sz ≤ q
def hlPre (G : MzG) (B : MzB) (M : MzM) (cO : ClassId) (o : Nat) (ov : Int64) (sz : Nat) (U : State) : Prop := U.heap.size = sz ∧ va_P G.1 vwCl (mz_w B M) U.heap ∧ va_K G.1 vwCl (mz_ty B) U ∧ va_D (fun _ => True) (mz_w B M) ∧ va_P G.1 vwCl (mzO cO o ov) U.heap ∧ va_K G.1 vwCl [(cO, .long)] U ∧ (∀ i ∈ mz_dm B, mz_ad B i ≠ o) ∧ o < sz ∧ mz_ro mzRo G (hlA B o sz) U U.heap
def hlQ (G : MzG) (B : MzB) (cO : ClassId) (o : Nat) (K : Int32 → MzM → Int64 → Prop) (A : Nat → Prop) : Array Value → State → Outcome → State → Prop := fun _ st oc t => ∃ (v : Int32) (M' : MzM) (ov' : Int64), oc = .returned (some (.int v)) ∧ K v M' ov' ∧ va_P G.1 vwCl (mz_w B M') t.heap ∧ va_K G.1 vwCl (mz_ty B) t ∧ va_P G.1 vwCl (mzO cO o ov') t.heap ∧ va_K G.1 vwCl [(cO, .long)] t ∧ va_F A st t
abbrev MzHh : Type := List (Nat × Nat × Nat × Nat)
def HlC (G : MzG) (B : MzB) (d : Nat) (hh : MzHh) (mm : MzT) (av : List Value) (M : MzM) (cO : ClassId) (o : Nat) (ov : Int64) (K : Int32 → MzM → Int64 → Prop) : Prop :=
  ∀ (l : Launch) (sz : Nat), l.stackTraces = false → Met l mm.1 (Cond.codeWith mm.1 mm.2.1 mm.2.2.1 mm.2.2.2 hh :: mzAll) (mzRm d 1 6) (va_Pc av (hlPre G B M cO o ov sz)) (hlQ G B cO o K (hlA B o sz)) 1 6 (hlA B o sz)
def hlX (hh : MzHh) (mm : MzT) (p : Program) (s : State) (m : MethodId) (args : Array Value) (meth : Method) (c : Code) : Prop :=
  p.tables.exec = Jvm.exec ∧ c.code = mm.2.1 ∧ c.maxLocals = mm.2.2.1 ∧ meth.sig.returnType = mm.2.2.2 ∧ (∀ w ∈ mzAll, w.before args s = true) ∧ s.vm.findClass mm.1.cls = some m.cls ∧ meth.locks = false ∧ c.exceptionTable.toList.map (fun h => (h.startPc, h.endPc, h.handlerPc, h.catchType)) = hh
abbrev MzHG : Type := MzB × ClassId × Nat × (Int32 → MzM → Int64 → Prop)
def MzH (G : MzG) (Γ : MzHG) (d : Nat) (hh : MzHh) (mm : MzT) (M : MzM) (ov : Int64) (bu : Nat × Nat) (pc : Nat) (lv : List (Nat × Value)) (st : List Value) : Prop :=
  ∀ (p : Program) (l : Launch) (e : Env) (mc ms : Nat) (s : State) (m : MethodId) (args : Array Value) (below : List Frame) (meth : Method) (c : Code) (A : Nat → Prop) (H : Heap) (locs : List Loc) (cells slots : Nat) (ls : Array Slot),
    l.stackTraces = false → hlX hh mm p s m args meth c → lv_has ls mm.2.2.1 lv → mzI G Γ.1 M A s H locs → hlO G Γ.1 Γ.2.1 Γ.2.2.1 ov A s H → cells + bu.1 ≤ mc → slots + bu.2 ≤ ms →
    W p l e (mzRm d mc ms) s m args below meth c H locs cells slots (MQ below (hlQ G Γ.1 Γ.2.1 Γ.2.2.1 Γ.2.2.2 A) args s mc ms A) (F0 m pc ls st)
theorem mz_w_ad {B : MzB} {M : MzM} {k : Nat} {q : Nat × va_E} (h : (mz_w B M)[k]? = some q) : ∃ i ∈ mz_dm B, mz_ad B i = q.1 := by
  unfold mz_w at h
  rw [List.getElem?_map] at h
  cases hi : (mz_dm B)[k]? with
  | none => rw [hi] at h; cases h
  | some i =>
    rw [hi] at h
    cases h
    exact ⟨i, List.mem_of_getElem? hi, rfl⟩
theorem hl_pre_blind {G : MzG} {B : MzB} {M : MzM} {cO : ClassId} {o sz : Nat} {ov : Int64} {av : List Value} : FrameBlind (va_Pc av (hlPre G B M cO o ov sz)) := by
  intro a U g mk h
  obtain ⟨h0, h1, h2, h3, h4, h5, h6, h7, h8, h9⟩ := h
  exact ⟨h0, h1, h2, va_K.moved (u := U) (U := U.calling g mk a) (Vm.Alike.refl U.vm) h3, h4, h5, va_K.moved (u := U) (U := U.calling g mk a) (Vm.Alike.refl U.vm) h6, h7, h8, mz_ro.same (u := U) (U := U.calling g mk a) rfl h9⟩
set_option maxHeartbeats 4000000 in
theorem HlC.of {G : MzG} {B : MzB} {d : Nat} {hh : MzHh} {mm : MzT} {av : List Value} {M : MzM} {cO : ClassId} {o : Nat} {ov : Int64} {K : Int32 → MzM → Int64 → Prop} (hpl : plainName mm.1.cls = true) (hlen : (lg_sl av).length ≤ mm.2.2.1) (h : MzH G (B, cO, o, K) d hh mm M ov (1, 6) 0 (lv_args 0 av) []) : HlC G B d hh mm av M cO o ov K := by
  intro l sz hst
  refine va_MetW (hh := hh) (cc := mm.2.1) (maxL := mm.2.2.1) (ret := mm.2.2.2) hpl rfl ?_
  intro p e s m args below meth c s₁ B0 hml hv
  obtain ⟨rfl, hsz, hP, hK, hD0, hPO, hKO, hne, hlt, hR⟩ := hv
  have hl := lv_entry av (n := mm.2.2.1) hlen
  have hts := atoms_spec (ws := Cond.codeWith mm.1 mm.2.1 mm.2.2.1 mm.2.2.2 hh :: mzAll) B0.pre
  have hmc : meth.code = some c := mz_codeOf B0.here (by rw [B0.state]; exact B0.method)
  obtain ⟨m9, meth9, c9, hn9, g1, g2, -, -, g5, -⟩ := Cond.codeWith_spec (hts _ List.mem_cons_self)
  cases B0.named.symm.trans hn9
  cases B0.method.symm.trans g1
  cases hmc.symm.trans g2
  rw [lg_entry_eq]
  subst hsz
  have hA : ∀ q, va_A (mz_w B M) s.heap.size q → hlA B o s.heap.size q := by
    intro q hq
    rcases hq with ⟨k, ee, hq⟩ | hq
    · exact Or.inl (mz_w_ad hq)
    · exact Or.inr (Or.inr hq)
  exact h p l e 1 6 s m _ below meth c (hlA B o s.heap.size) s.heap [] 0 0 _ hst ⟨B0.exec, B0.bytes, hml, B0.returns, fun w hw => hts w (List.mem_cons_of_mem _ hw), findClass_of_methodNamed B0.named, B0.notSynchronized, g5⟩ hl ⟨hK, hP, hD0.weaken (fun k q hq _ => Or.inl (mz_w_ad hq)), va_S.rf, fun q hq => Or.inr (Or.inr hq), hR⟩ ⟨hPO, hKO, Or.inr (Or.inl rfl), hne, hlt⟩ (by omega) (by omega)
theorem hl_next {G : MzG} {B : MzB} {M M' : MzM} {cO : ClassId} {o : Nat} {ov : Int64} {A : Nat → Prop} {s t : State} {H : Heap} {locs L : List Loc} (hI : mzI G B M A s H locs) (hO : hlO G B cO o ov A s H) (hP' : va_P G.1 vwCl (mz_w B M') t.heap) (hK' : va_K G.1 vwCl (mz_ty B) t) (hD' : va_D (va_A (mz_w B M) H.size) (mz_w B M')) (hz : H.size ≤ t.heap.size) (hk : ∀ q : Nat, q < H.size → ¬ va_A (mz_w B M) H.size q → t.heap[q]? = H[q]?) (hal : s.vm.Alike t.vm) (hL : ∀ q ∈ L, va_A (mz_w B M) H.size q.base) :
    mzI G B M' A s t.heap (locs ++ L) ∧ hlO G B cO o ov A s t.heap := by
  have hAA : ∀ q, va_A (mz_w B M) H.size q → A q := by
    intro q hq
    rcases hq with ⟨k, ee, hq⟩ | hq
    · exact hI.2.2.1.2 k (q, ee) hq
    · exact hI.2.2.2.2.1 q (Nat.le_trans hI.2.2.2.1.1 hq)
  have hno : ¬ va_A (mz_w B M) H.size o := by
    intro hq
    rcases hq with ⟨k, ee, hq⟩ | hq
    · obtain ⟨i, hi, he⟩ := mz_w_ad hq
      exact hO.2.2.2.1 i hi he
    · exact Nat.lt_irrefl _ (Nat.lt_of_lt_of_le hO.2.2.2.2 hq)
  refine ⟨⟨va_K.moved hal.symm hK', hP', hD'.weaken (fun k q _ h9 => hAA q.1 h9), ⟨Nat.le_trans hI.2.2.2.1.1 hz, fun q g1 g2 => ?_, fun q hq => ?_⟩, hI.2.2.2.2.1, hI.2.2.2.2.2⟩, ⟨hO.1.kept (fun k q hq => ?_), hO.2.1, hO.2.2.1, hO.2.2.2.1, Nat.lt_of_lt_of_le hO.2.2.2.2 hz⟩⟩
  · rw [hk q (Nat.lt_of_lt_of_le g1 hI.2.2.2.1.1) (fun z => g2 (hAA q z))]
    exact hI.2.2.2.1.2.1 q g1 g2
  · rcases List.mem_append.mp hq with h9 | h9
    · exact hI.2.2.2.1.2.2 q h9
    · exact hAA _ (hL q h9)
  · have hqo : q.1 = o := by
      cases k with
      | zero => cases hq; rfl
      | succ k => cases hq
    rw [hqo]
    exact hk o hO.2.2.2.2 hno
/-- the row of the table that catches X at pc, the rows before it passed -/
def hlCatch (own : String) (hh : MzHh) (pc : Nat) (X : String) (hp : Nat) : Prop :=
  ∃ (pre post : MzHh) (x : Nat × Nat × Nat × Nat), hh = pre ++ x :: post ∧ (∀ y ∈ pre, y.2.2.2 ≠ 0 ∧ ∃ N : String, Cond.classLink own y.2.2.2 N ∈ mzAll ∧ mzNc X N ∈ mzRo) ∧ (x.1 ≤ pc ∧ pc < x.2.1) ∧ x.2.2.2 ≠ 0 ∧ x.2.2.1 = hp ∧ Cond.classLink own x.2.2.2 X ∈ mzAll ∧ mzNw (.castable X X) ∈ mzRo
section MzHRules
variable {G : MzG} {Γ : MzHG} {d : Nat} {hh : MzHh} {mm : MzT} {M : MzM} {ov : Int64} {bu : Nat × Nat} {pc : Nat} {lv : List (Nat × Value)} {st : List Value}
theorem mh_iconst {n : Int} (v : Int32) (hd : decode mm.2.1 pc = .ok (.iconst n, 1)) (hv : Int32.ofInt n = v) (h : MzH G Γ d hh mm M ov bu (pc + 1) lv (.int v :: st)) : MzH G Γ d hh mm M ov bu pc lv st :=
  fun p l e mc ms s m args below meth c A H locs cells slots ls hs0 hX hl hI hO c1 c2 => lv_iconst hX.1 hX.2.1 hd hv (h p l e mc ms s m args below meth c A H locs cells slots ls hs0 hX hl hI hO c1 c2)
theorem mh_i2l {x : Int32} (hd : decode mm.2.1 pc = .ok (.i2l, 1)) (h : MzH G Γ d hh mm M ov bu (pc + 1) lv (.long x.toInt64 :: st)) : MzH G Γ d hh mm M ov bu pc lv (.int x :: st) :=
  fun p l e mc ms s m args below meth c A H locs cells slots ls hs0 hX hl hI hO c1 c2 => lv_i2l hX.1 hX.2.1 hd rfl (h p l e mc ms s m args below meth c A H locs cells slots ls hs0 hX hl hI hO c1 c2)
theorem mh_iload_n {k : Fin 4} {x : Int32} (hd : decode mm.2.1 pc = .ok (.iload_n k, 1)) (hk : mz_lk lv k.val = some (.int x)) (h : MzH G Γ d hh mm M ov bu (pc + 1) lv ((.int x) :: st)) : MzH G Γ d hh mm M ov bu pc lv st :=
  fun p l e mc ms s m args below meth c A H locs cells slots ls hs0 hX hl hI hO c1 c2 => lv_iload_n hX.1 hX.2.1 hd rfl (mz_lk_at hl hk) (h p l e mc ms s m args below meth c A H locs cells slots ls hs0 hX hl hI hO c1 c2)
theorem mh_iload {k : Nat} {x : Int32} (hd : decode mm.2.1 pc = .ok (.iload k, 2)) (hk : mz_lk lv k = some (.int x)) (h : MzH G Γ d hh mm M ov bu (pc + 2) lv ((.int x) :: st)) : MzH G Γ d hh mm M ov bu pc lv st :=
  fun p l e mc ms s m args below meth c A H locs cells slots ls hs0 hX hl hI hO c1 c2 => lv_iload hX.1 hX.2.1 hd (mz_lk_at hl hk) (h p l e mc ms s m args below meth c A H locs cells slots ls hs0 hX hl hI hO c1 c2)
theorem mh_aload_n {k : Fin 4} {x : Nat} (hd : decode mm.2.1 pc = .ok (.aload_n k, 1)) (hk : mz_lk lv k.val = some (.ref x)) (h : MzH G Γ d hh mm M ov bu (pc + 1) lv ((.ref x) :: st)) : MzH G Γ d hh mm M ov bu pc lv st :=
  fun p l e mc ms s m args below meth c A H locs cells slots ls hs0 hX hl hI hO c1 c2 => lv_aload_n hX.1 hX.2.1 hd rfl (mz_lk_at hl hk) (h p l e mc ms s m args below meth c A H locs cells slots ls hs0 hX hl hI hO c1 c2)
theorem mh_astore_n {k : Fin 4} {x : Nat} (hd : decode mm.2.1 pc = .ok (.astore_n k, 1)) (hn : k.val < mm.2.2.1) (h : MzH G Γ d hh mm M ov bu (pc + 1) (mz_st lv k.val (.ref x)) st) : MzH G Γ d hh mm M ov bu pc lv (.ref x :: st) :=
  fun p l e mc ms s m args below meth c A H locs cells slots ls hs0 hX hl hI hO c1 c2 => lv_astore_n hX.1 hX.2.1 hd rfl hl hn rfl (fun ls' hl' => h p l e mc ms s m args below meth c A H locs cells slots ls' hs0 hX hl' hI hO c1 c2)
theorem mh_astore {k : Nat} {x : Nat} (hd : decode mm.2.1 pc = .ok (.astore k, 2)) (hn : k < mm.2.2.1) (h : MzH G Γ d hh mm M ov bu (pc + 2) (mz_st lv k (.ref x)) st) : MzH G Γ d hh mm M ov bu pc lv (.ref x :: st) :=
  fun p l e mc ms s m args below meth c A H locs cells slots ls hs0 hX hl hI hO c1 c2 => lv_astore hX.1 hX.2.1 hd hl hn rfl (fun ls' hl' => h p l e mc ms s m args below meth c A H locs cells slots ls' hs0 hX hl' hI hO c1 c2)
theorem mh_goto {off : Int} (tgt : Nat) (hd : decode mm.2.1 pc = .ok (.goto off, 3)) (ht : (pc : Int) + off = (tgt : Int)) (h : MzH G Γ d hh mm M ov bu tgt lv st) : MzH G Γ d hh mm M ov bu pc lv st :=
  fun p l e mc ms s m args below meth c A H locs cells slots ls hs0 hX hl hI hO c1 c2 => lv_goto hX.1 hX.2.1 hd ht (h p l e mc ms s m args below meth c A H locs cells slots ls hs0 hX hl hI hO c1 c2)
theorem mh_iret {v : Int32} (hd : decode mm.2.1 pc = .ok (.ireturn, 1)) (hr : mm.2.2.2 = some .int) (h : Γ.2.2.2 v M ov) : MzH G Γ d hh mm M ov bu pc lv [.int v] := by
  intro p l e mc ms s m args below meth c A H locs cells slots ls hs0 hX hl hI hO c1 c2
  have hlocks : meth.locks = false := hX.2.2.2.2.2.2.1
  refine W.widen (k := mc) (n := ms) (by omega) (by omega) ?_
  exact W.zret hX.1 hX.2.1 (hX.2.2.2.1.trans hr) rfl (fun t ht hW => ⟨v, M, ov, rfl, h, by rw [ht]; exact hI.2.1, va_K.moved hW.alike hI.1, by rw [ht]; exact hO.1, va_K.moved hW.alike hO.2.1, hI.2.2.2.1.F ht⟩) hI.2.2.2.1.2.2 hd hlocks
set_option maxHeartbeats 4000000 in
theorem mh_last {x : Int64} (hd : decode mm.2.1 pc = .ok (.lastore, 1)) (h : MzH G Γ d hh mm M x bu (pc + 1) lv st) : MzH G Γ d hh mm M ov bu pc lv (.long x :: .int 0 :: .ref Γ.2.2.1 :: st) := by
  intro p l e mc ms s m args below meth c A H locs cells slots ls hs0 hX hl hI hO c1 c2
  have hw0 : (mz_w Γ.1 M ++ mzO Γ.2.1 Γ.2.2.1 ov)[(mz_w Γ.1 M).length]? = some (Γ.2.2.1, .inl (Γ.2.1, 1, .inr (.inl (fun _ => ov)))) := by
    rw [List.getElem?_append_right (Nat.le_refl _), Nat.sub_self]; rfl
  have hPj : va_P G.1 vwCl (mz_w Γ.1 M ++ mzO Γ.2.1 Γ.2.2.1 ov) H := by
    intro k q hq
    by_cases hk : k < (mz_w Γ.1 M).length
    · rw [List.getElem?_append_left hk] at hq; exact hI.2.1 k q hq
    · rw [List.getElem?_append_right (Nat.not_lt.mp hk)] at hq; exact hO.1 _ q hq
  have hDj : va_D A (mz_w Γ.1 M ++ mzO Γ.2.1 Γ.2.2.1 ov) := by
    refine ⟨fun i j a b hi hj he => ?_, fun k q hq => ?_⟩
    · by_cases h1 : i < (mz_w Γ.1 M).length
      · rw [List.getElem?_append_left h1] at hi
        by_cases h2 : j < (mz_w Γ.1 M).length
        · rw [List.getElem?_append_left h2] at hj
          exact hI.2.2.1.1 i j a b hi hj he
        · rw [List.getElem?_append_right (Nat.not_lt.mp h2)] at hj
          obtain ⟨i0, hi0, he0⟩ := mz_w_ad hi
          have hb : b.1 = Γ.2.2.1 := by
            cases hz : j - (mz_w Γ.1 M).length with
            | zero => rw [hz] at hj; cases hj; rfl
            | succ z => rw [hz] at hj; cases hj
          exact (hO.2.2.2.1 i0 hi0 (by rw [he0, he, hb])).elim
      · rw [List.getElem?_append_right (Nat.not_lt.mp h1)] at hi
        have ha : a.1 = Γ.2.2.1 ∧ i - (mz_w Γ.1 M).length = 0 := by
          cases hz : i - (mz_w Γ.1 M).length with
          | zero => rw [hz] at hi; cases hi; exact ⟨rfl, rfl⟩
          | succ z => rw [hz] at hi; cases hi
        by_cases h2 : j < (mz_w Γ.1 M).length
        · rw [List.getElem?_append_left h2] at hj
          obtain ⟨j0, hj0, he0⟩ := mz_w_ad hj
          exact (hO.2.2.2.1 j0 hj0 (by rw [he0, ← he, ha.1])).elim
        · rw [List.getElem?_append_right (Nat.not_lt.mp h2)] at hj
          have hb : j - (mz_w Γ.1 M).length = 0 := by
            cases hz : j - (mz_w Γ.1 M).length with
            | zero => rfl
            | succ z => rw [hz] at hj; cases hj
          have := ha.2
          omega
    · by_cases hk : k < (mz_w Γ.1 M).length
      · rw [List.getElem?_append_left hk] at hq; exact hI.2.2.1.2 k q hq
      · rw [List.getElem?_append_right (Nat.not_lt.mp hk)] at hq
        have hb : q.1 = Γ.2.2.1 := by
          cases hz : k - (mz_w Γ.1 M).length with
          | zero => rw [hz] at hq; cases hq; rfl
          | succ z => rw [hz] at hq; cases hq
        rw [hb]; exact hO.2.2.1
  refine va_last (i := 0) (x := x) hX.1 hX.2.1 hO.2.1 hPj hDj hI.2.2.2.1 (mz_w Γ.1 M).length 0 hw0 rfl (show vp_in 0 1 by unfold vp_in; decide) hd ?_
  intro H1 locs1 g1 g2 g3
  have hset : (mz_w Γ.1 M ++ mzO Γ.2.1 Γ.2.2.1 ov).set (mz_w Γ.1 M).length (Γ.2.2.1, .inl (Γ.2.1, 1, .inr (.inl (vp_updL (fun _ => ov) (0 : Int32).toNatClampNeg x)))) = mz_w Γ.1 M ++ [(Γ.2.2.1, .inl (Γ.2.1, 1, .inr (.inl (vp_updL (fun _ => ov) (0 : Int32).toNatClampNeg x))))] := by
    rw [List.set_append_right _ _ (Nat.le_refl _), Nat.sub_self]; rfl
  rw [hset] at g1 g2
  have hP1 : va_P G.1 vwCl (mz_w Γ.1 M) H1 := by
    intro k q hq
    have hk : k < (mz_w Γ.1 M).length := (List.getElem?_eq_some_iff.mp hq).1
    exact g1 k q (by rw [List.getElem?_append_left hk]; exact hq)
  have hPo : va_P G.1 vwCl [(Γ.2.2.1, .inl (Γ.2.1, 1, .inr (.inl (vp_updL (fun _ => ov) (0 : Int32).toNatClampNeg x))))] H1 := by
    intro k q hq
    exact g1 ((mz_w Γ.1 M).length + k) q (by rw [List.getElem?_append_right (Nat.le_add_right _ _), Nat.add_sub_cancel_left]; exact hq)
  refine h p l e mc ms s m args below meth c A H1 locs1 cells slots ls hs0 hX hl ⟨hI.1, hP1, hI.2.2.1, g3, hI.2.2.2.2.1, hI.2.2.2.2.2⟩ ⟨?_, hO.2.1, hO.2.2.1, hO.2.2.2.1, (hPo 0 _ rfl).lt⟩ c1 c2
  intro k q hq
  cases k with
  | succ k => cases hq
  | zero =>
    cases hq
    have h9 := hPo 0 _ rfl
    exact mz_o1 rfl h9
set_option maxHeartbeats 4000000 in
theorem mh_callX {mm' : MzT} {idx : Nat} {As : List Value} {i : MzL} {ci : Nat} {T0 : u_T} {N : Nat} (hi : i ∈ mz_dm Γ.1) (hkd : mzKd i = .inl ci) (hcl : vwCl[ci]? = some (mm'.1.cls, T0, N)) (hd : decode mm.2.1 pc = .ok (.invokevirtual idx, 3)) (hcs : mzCall mm mm' As.length) (hw : Cond.methodLink mm.1.cls idx mm'.1 ∈ mzAll) (hin : Cond.instanceMethod mm'.1 ∈ mzAll) (hse : Cond.selects mm'.1.cls mm'.1 mm'.1 ∈ mzAll) (hst : (st.map fun v => v.category).sum ≤ 8) (hb1 : 1 ≤ bu.1) (hb2 : 6 ≤ bu.2)
    (h : MzCX G Γ.1 d mm' (.ref (mz_ad Γ.1 i) :: As) M (1, 6) (fun r B' M' => Γ.1 = B' ∧ ((∃ v, r = .inl v ∧ MzH G Γ (d + 1) hh mm M' ov (bu.1 - 1, bu.2 - 6) (pc + 3) lv (v.toList ++ st)) ∨ (∃ X, r = .inr X ∧ ∃ hp, hlCatch mm.1.cls hh pc X hp ∧ ∀ a, MzH G Γ (d + 1) hh mm M' ov (bu.1 - 1, bu.2 - 6) hp lv [.ref a])))) : MzH G Γ (d + 1) hh mm M ov bu pc lv (As.reverse ++ .ref (mz_ad Γ.1 i) :: st) := by
  intro p l e mc ms s m args below meth c A H locs cells slots ls hs0 hX hl hI hO c1 c2 T hT X
  obtain ⟨q0, -, hq0⟩ := mz_pl M hi
  rw [mz_ce_o hkd] at hq0
  obtain ⟨cellB, hcB, hoB, hclB⟩ := va_recv hI.1 hI.2.1 hcl hq0
  have hdc : decode c.code pc = .ok (.invokevirtual idx, 3) := by rw [hX.2.1]; exact hd
  have hfits : mm'.2.2.1 ≤ 27 := hcs.2.2.2
  obtain ⟨vm₁, mk, oc, t, X₁, stp, hend, ⟨⟨r, B', M', ⟨rfl, hK⟩, hoc, hP', hK', hD'⟩, hz, hk⟩, hfe⟩ := mz_siteX X hX.1 (own := mm.1.cls) (C := mm'.1.cls) (mm' := mm') (n := As.length) hX.2.2.2.2.1 hX.2.2.2.2.2.1 hw hin hse hcs.2.1 hcs.1 hcs.2.2.1 (h l H.size hs0) mz_pre_blind (Nat.le_refl (d + 1)) (show 8 + (mm'.2.2.1 + 11) + 46 * d ≤ 46 * (d + 1) by omega) (show cells + 1 ≤ mc by omega) (show slots + 6 ≤ ms by omega) (by rw [hT]; exact hcB) hoB hclB (g := F0 m pc ls (As.reverse ++ .ref (mz_ad Γ.1 i) :: st)) rfl (by rw [hX.2.2.1]; exact hl.1) rfl rfl (lv_room hst) hdc (fun vm₁ hW₁ => mz_preOf hI hT hW₁)
  have h0 : ((T.setVm vm₁).calling { F0 m pc ls (As.reverse ++ .ref (mz_ad Γ.1 i) :: st) with stack := st } mk (Value.ref (mz_ad Γ.1 i) :: As).toArray).heap = H := hT
  rw [h0] at hz hk
  rcases hK with ⟨v, rfl, hS⟩ | ⟨Xn, rfl, hp, hcat, hS⟩
  · have hoc : oc = .returned v := hoc
    subst hoc
    rcases hfe with ⟨L, hF, hL⟩ | ⟨x, hx, -⟩
    · obtain ⟨T', X', hW', -, ht⟩ := X₁.outOf (g := { F0 m pc ls (As.reverse ++ .ref (mz_ad Γ.1 i) :: st) with stack := st }) rfl hdc hend hF.2.1 hF.2.2
      have e1 : T'.heap = t.heap := by rw [ht]; rfl
      have e2 : T'.vm = t.vm := by rw [ht]; rfl
      have hal : s.vm.Alike t.vm := by rw [← e2]; exact X'.warmed.alike
      obtain ⟨hI', hO'⟩ := hl_next hI hO hP' hK' hD' hz hk hal hL
      rw [← e1] at hI' hO'
      obtain ⟨t2, a1, b1⟩ := hS p l e mc ms s m args below meth c A T'.heap (locs ++ L) (cells + 1) (slots + 6) ls hs0 hX hl hI' hO' (show cells + 1 + (bu.1 - 1) ≤ mc by omega) (show slots + 6 + (bu.2 - 6) ≤ ms by omega) T' rfl X'
      exact ⟨t2, stp.trans (by rw [ht]; exact a1), b1⟩
    · cases hx
  · obtain ⟨a, rfl, cell, hc1, hc2, hc3, hcA⟩ := hoc
    rcases hfe with ⟨L, ⟨⟨v, hv⟩, -⟩, -⟩ | ⟨x, hx, hW2, hs2⟩
    · cases hv
    · cases hx
      obtain ⟨T', X', hW', -, ht⟩ := X₁.outOfThrown (g := { F0 m pc ls (As.reverse ++ .ref (mz_ad Γ.1 i) :: st) with stack := st }) rfl hend hW2 hs2
      have e1 : T'.heap = t.heap := by rw [ht, Stand.throwing_heap]
      have e2 : T'.vm = t.vm := by rw [ht, Stand.throwing_vm]
      have hal : s.vm.Alike t.vm := by rw [← e2]; exact X'.warmed.alike
      obtain ⟨hI', hO'⟩ := hl_next (L := []) hI hO hP' hK' hD' hz hk hal (fun q hq => by cases hq)
      rw [← e1] at hI' hO' hc1
      have hfX : s.vm.findClass Xn = some cell.cls := by rw [← hal.findClass]; exact hc3
      obtain ⟨pre, post, x, hsp, hpass, hcov, hx0, hxp, hxl, hxc⟩ := hcat
      have htab := hX.2.2.2.2.2.2.2
      rw [hsp] at htab
      obtain ⟨pre', rest', hl1, hl2, hl3⟩ := List.map_eq_append_iff.mp htab
      obtain ⟨x', post', hl4, hl5, hl6⟩ := List.map_eq_cons_iff.mp hl3
      subst hl4
      have hxx : (x'.startPc, x'.endPc, x'.handlerPc, x'.catchType) = x := hl5
      subst hxx
      have hpl : e.platform.magicAccessors = ({} : Platform).magicAccessors := by rw [X'.admits.platform]
      obtain ⟨c3, c4, hc3', hc4, hasg⟩ := Cond.castable_spec (va_Nw.use (A := args) rfl (mz_u hI.2.2.2.2.2 hxc))
      cases hc3'.symm.trans hfX
      cases hc4.symm.trans hfX
      obtain ⟨hrc, hk0⟩ := X'.catches_of_link hX.2.2.2.2.2.1 hx0 (hX.2.2.2.2.1 _ hxl) hfX hasg
      obtain ⟨vm', XV, stV⟩ := X'.thenCaughtThrough a (g := { F0 m pc ls (As.reverse ++ .ref (mz_ad Γ.1 i) :: st) with stack := st }) rfl (s₀ := T.setTop (F0 m pc ls (As.reverse ++ .ref (mz_ad Γ.1 i) :: st))) (by rw [← ht]; exact stp) hc1 hc2 hk0 pre' x' post' hl1 (fun y hy => by
        have hy' : (y.startPc, y.endPc, y.handlerPc, y.catchType) ∈ pre := by rw [← hl2]; exact List.mem_map.mpr ⟨y, hy, rfl⟩
        obtain ⟨hy0, N, hyl, hyn⟩ := hpass _ hy'
        obtain ⟨c', hc', hcl'⟩ := Cond.classLink_spec hX.2.2.2.2.2.1 (hX.2.2.2.2.1 _ hyl) e.platform hpl
        obtain ⟨c5, t5, n1, n2, n3⟩ := (mz_u hI.2.2.2.2.2 hyn : va_Nc Xn N s)
        cases n1.symm.trans hfX
        cases n2.symm.trans hc'
        exact Or.inr ⟨hy0, c', hcl', n3⟩) (by simp [covers]; exact hcov) hrc
      obtain ⟨t2, a1, b1⟩ := hS a p l e mc ms s m args below meth c A T'.heap (locs ++ []) (cells + 1) (slots + 6) ls hs0 hX hl hI' hO' (show cells + 1 + (bu.1 - 1) ≤ mc by omega) (show slots + 6 + (bu.2 - 6) ≤ ms by omega) (T'.setVm vm') rfl XV
      subst hxp
      exact ⟨t2, stV.trans a1, b1⟩
end MzHRules
theorem MzCX.mono {G : MzG} {B : MzB} {d : Nat} {mm : MzT} {av : List Value} {M : MzM} {bu : Nat × Nat} {Q Q' : MzR → MzB → MzM → Prop} (h : MzCX G B d mm av M bu Q) (hQ : ∀ r B' M', Q r B' M' → Q' r B' M') : MzCX G B d mm av M bu Q' := by
  intro l sz hst
  refine MetFree.mono (h l sz hst) (fun _ _ h => h) (fun _ _ _ _ _ h => h) ?_
  intro a st o t _ h1
  obtain ⟨⟨⟨r, B', M', q1, q2, q3⟩, q4⟩, q5⟩ := h1
  exact ⟨⟨⟨r, B', M', hQ r B' M' q1, q2, q3⟩, q4⟩, q5⟩
def mm_Law_close : MzT := (⟨"ParcelLineLaw", "close", "(LParcelLine;I)I"⟩, method_3_code, 3, (Option.some Jvm.ClassFile.FieldType.int))
def hh_Law_close : MzHh := [(0, 5, 8, 13), (0, 5, 11, 15)]
theorem wcw_Law_close : Cond.codeWith mm_Law_close.1 mm_Law_close.2.1 mm_Law_close.2.2.1 mm_Law_close.2.2.2 hh_Law_close ∈ mzAll := mz_t4 (List.mem_of_getElem? (i := 63) (by decide +kernel)) (by decide +kernel)
theorem d_Law_close_0 : decode mm_Law_close.2.1 0 = .ok (.aload_n 0, 1) := by decide +kernel
theorem d_Law_close_1 : decode mm_Law_close.2.1 1 = .ok (.iload_n 1, 1) := by decide +kernel
theorem d_Law_close_2 : decode mm_Law_close.2.1 2 = .ok (.invokevirtual 7, 3) := by decide +kernel
theorem d_Law_close_5 : decode mm_Law_close.2.1 5 = .ok (.goto 9, 3) := by decide +kernel
theorem d_Law_close_8 : decode mm_Law_close.2.1 8 = .ok (.astore_n 2, 1) := by decide +kernel
theorem d_Law_close_9 : decode mm_Law_close.2.1 9 = .ok (.iconst 1, 1) := by decide +kernel
theorem d_Law_close_10 : decode mm_Law_close.2.1 10 = .ok (.ireturn, 1) := by decide +kernel
theorem d_Law_close_11 : decode mm_Law_close.2.1 11 = .ok (.astore_n 2, 1) := by decide +kernel
theorem d_Law_close_12 : decode mm_Law_close.2.1 12 = .ok (.iconst 2, 1) := by decide +kernel
theorem d_Law_close_13 : decode mm_Law_close.2.1 13 = .ok (.ireturn, 1) := by decide +kernel
theorem d_Law_close_14 : decode mm_Law_close.2.1 14 = .ok (.iconst 0, 1) := by decide +kernel
theorem d_Law_close_15 : decode mm_Law_close.2.1 15 = .ok (.ireturn, 1) := by decide +kernel
def mm_Law_bring : MzT := (⟨"ParcelLineLaw", "bring", "(LParcelLine;II)I"⟩, method_4_code, 4, (Option.some Jvm.ClassFile.FieldType.int))
def hh_Law_bring : MzHh := [(0, 6, 9, 13), (0, 6, 12, 15)]
theorem wcw_Law_bring : Cond.codeWith mm_Law_bring.1 mm_Law_bring.2.1 mm_Law_bring.2.2.1 mm_Law_bring.2.2.2 hh_Law_bring ∈ mzAll := mz_t4 (List.mem_of_getElem? (i := 159) (by decide +kernel)) (by decide +kernel)
theorem d_Law_bring_0 : decode mm_Law_bring.2.1 0 = .ok (.aload_n 0, 1) := by decide +kernel
theorem d_Law_bring_1 : decode mm_Law_bring.2.1 1 = .ok (.iload_n 1, 1) := by decide +kernel
theorem d_Law_bring_2 : decode mm_Law_bring.2.1 2 = .ok (.iload_n 2, 1) := by decide +kernel
theorem d_Law_bring_3 : decode mm_Law_bring.2.1 3 = .ok (.invokevirtual 17, 3) := by decide +kernel
theorem d_Law_bring_6 : decode mm_Law_bring.2.1 6 = .ok (.goto 9, 3) := by decide +kernel
theorem d_Law_bring_9 : decode mm_Law_bring.2.1 9 = .ok (.astore_n 3, 1) := by decide +kernel
theorem d_Law_bring_10 : decode mm_Law_bring.2.1 10 = .ok (.iconst 1, 1) := by decide +kernel
theorem d_Law_bring_11 : decode mm_Law_bring.2.1 11 = .ok (.ireturn, 1) := by decide +kernel
theorem d_Law_bring_12 : decode mm_Law_bring.2.1 12 = .ok (.astore_n 3, 1) := by decide +kernel
theorem d_Law_bring_13 : decode mm_Law_bring.2.1 13 = .ok (.iconst 2, 1) := by decide +kernel
theorem d_Law_bring_14 : decode mm_Law_bring.2.1 14 = .ok (.ireturn, 1) := by decide +kernel
theorem d_Law_bring_15 : decode mm_Law_bring.2.1 15 = .ok (.iconst 0, 1) := by decide +kernel
theorem d_Law_bring_16 : decode mm_Law_bring.2.1 16 = .ok (.ireturn, 1) := by decide +kernel
def mm_Law_take : MzT := (⟨"ParcelLineLaw", "take", "(LParcelLine;I[J)I"⟩, method_5_code, 4, (Option.some Jvm.ClassFile.FieldType.int))
def hh_Law_take : MzHh := [(0, 9, 12, 13), (0, 9, 15, 25)]
theorem wcw_Law_take : Cond.codeWith mm_Law_take.1 mm_Law_take.2.1 mm_Law_take.2.2.1 mm_Law_take.2.2.2 hh_Law_take ∈ mzAll := mz_t4 (List.mem_of_getElem? (i := 171) (by decide +kernel)) (by decide +kernel)
theorem d_Law_take_0 : decode mm_Law_take.2.1 0 = .ok (.aload_n 2, 1) := by decide +kernel
theorem d_Law_take_1 : decode mm_Law_take.2.1 1 = .ok (.iconst 0, 1) := by decide +kernel
theorem d_Law_take_2 : decode mm_Law_take.2.1 2 = .ok (.aload_n 0, 1) := by decide +kernel
theorem d_Law_take_3 : decode mm_Law_take.2.1 3 = .ok (.iload_n 1, 1) := by decide +kernel
theorem d_Law_take_4 : decode mm_Law_take.2.1 4 = .ok (.invokevirtual 21, 3) := by decide +kernel
theorem d_Law_take_7 : decode mm_Law_take.2.1 7 = .ok (.i2l, 1) := by decide +kernel
theorem d_Law_take_8 : decode mm_Law_take.2.1 8 = .ok (.lastore, 1) := by decide +kernel
theorem d_Law_take_9 : decode mm_Law_take.2.1 9 = .ok (.goto 9, 3) := by decide +kernel
theorem d_Law_take_12 : decode mm_Law_take.2.1 12 = .ok (.astore_n 3, 1) := by decide +kernel
theorem d_Law_take_13 : decode mm_Law_take.2.1 13 = .ok (.iconst 1, 1) := by decide +kernel
theorem d_Law_take_14 : decode mm_Law_take.2.1 14 = .ok (.ireturn, 1) := by decide +kernel
theorem d_Law_take_15 : decode mm_Law_take.2.1 15 = .ok (.astore_n 3, 1) := by decide +kernel
theorem d_Law_take_16 : decode mm_Law_take.2.1 16 = .ok (.iconst 2, 1) := by decide +kernel
theorem d_Law_take_17 : decode mm_Law_take.2.1 17 = .ok (.ireturn, 1) := by decide +kernel
theorem d_Law_take_18 : decode mm_Law_take.2.1 18 = .ok (.iconst 0, 1) := by decide +kernel
theorem d_Law_take_19 : decode mm_Law_take.2.1 19 = .ok (.ireturn, 1) := by decide +kernel
def mm_Law_job : MzT := (⟨"ParcelLineLaw", "job", "(LParcelLine;ZIII)I"⟩, method_6_code, 6, (Option.some Jvm.ClassFile.FieldType.int))
def hh_Law_job : MzHh := [(0, 9, 12, 13), (0, 9, 16, 15)]
theorem wcw_Law_job : Cond.codeWith mm_Law_job.1 mm_Law_job.2.1 mm_Law_job.2.2.1 mm_Law_job.2.2.2 hh_Law_job ∈ mzAll := mz_t4 (List.mem_of_getElem? (i := 203) (by decide +kernel)) (by decide +kernel)
theorem d_Law_job_0 : decode mm_Law_job.2.1 0 = .ok (.aload_n 0, 1) := by decide +kernel
theorem d_Law_job_1 : decode mm_Law_job.2.1 1 = .ok (.iload_n 1, 1) := by decide +kernel
theorem d_Law_job_2 : decode mm_Law_job.2.1 2 = .ok (.iload_n 2, 1) := by decide +kernel
theorem d_Law_job_3 : decode mm_Law_job.2.1 3 = .ok (.iload_n 3, 1) := by decide +kernel
theorem d_Law_job_4 : decode mm_Law_job.2.1 4 = .ok (.iload 4, 2) := by decide +kernel
theorem d_Law_job_6 : decode mm_Law_job.2.1 6 = .ok (.invokevirtual 27, 3) := by decide +kernel
theorem d_Law_job_9 : decode mm_Law_job.2.1 9 = .ok (.goto 11, 3) := by decide +kernel
theorem d_Law_job_12 : decode mm_Law_job.2.1 12 = .ok (.astore 5, 2) := by decide +kernel
theorem d_Law_job_14 : decode mm_Law_job.2.1 14 = .ok (.iconst 1, 1) := by decide +kernel
theorem d_Law_job_15 : decode mm_Law_job.2.1 15 = .ok (.ireturn, 1) := by decide +kernel
theorem d_Law_job_16 : decode mm_Law_job.2.1 16 = .ok (.astore 5, 2) := by decide +kernel
theorem d_Law_job_18 : decode mm_Law_job.2.1 18 = .ok (.iconst 2, 1) := by decide +kernel
theorem d_Law_job_19 : decode mm_Law_job.2.1 19 = .ok (.ireturn, 1) := by decide +kernel
theorem d_Law_job_20 : decode mm_Law_job.2.1 20 = .ok (.iconst 0, 1) := by decide +kernel
theorem d_Law_job_21 : decode mm_Law_job.2.1 21 = .ok (.ireturn, 1) := by decide +kernel
def mm_Law_step : MzT := (⟨"ParcelLineLaw", "step", "(LParcelLine;[J)I"⟩, method_7_code, 3, (Option.some Jvm.ClassFile.FieldType.int))
def hh_Law_step : MzHh := [(0, 8, 11, 15)]
theorem wcw_Law_step : Cond.codeWith mm_Law_step.1 mm_Law_step.2.1 mm_Law_step.2.2.1 mm_Law_step.2.2.2 hh_Law_step ∈ mzAll := mz_t4 (List.mem_of_getElem? (i := 221) (by decide +kernel)) (by decide +kernel)
theorem d_Law_step_0 : decode mm_Law_step.2.1 0 = .ok (.aload_n 1, 1) := by decide +kernel
theorem d_Law_step_1 : decode mm_Law_step.2.1 1 = .ok (.iconst 0, 1) := by decide +kernel
theorem d_Law_step_2 : decode mm_Law_step.2.1 2 = .ok (.aload_n 0, 1) := by decide +kernel
theorem d_Law_step_3 : decode mm_Law_step.2.1 3 = .ok (.invokevirtual 31, 3) := by decide +kernel
theorem d_Law_step_6 : decode mm_Law_step.2.1 6 = .ok (.i2l, 1) := by decide +kernel
theorem d_Law_step_7 : decode mm_Law_step.2.1 7 = .ok (.lastore, 1) := by decide +kernel
theorem d_Law_step_8 : decode mm_Law_step.2.1 8 = .ok (.goto 6, 3) := by decide +kernel
theorem d_Law_step_11 : decode mm_Law_step.2.1 11 = .ok (.astore_n 2, 1) := by decide +kernel
theorem d_Law_step_12 : decode mm_Law_step.2.1 12 = .ok (.iconst 1, 1) := by decide +kernel
theorem d_Law_step_13 : decode mm_Law_step.2.1 13 = .ok (.ireturn, 1) := by decide +kernel
theorem d_Law_step_14 : decode mm_Law_step.2.1 14 = .ok (.iconst 0, 1) := by decide +kernel
theorem d_Law_step_15 : decode mm_Law_step.2.1 15 = .ok (.ireturn, 1) := by decide +kernel
def wh_Law_close (a1 : Int32) (M : MzM) (ov : Int64) (K : Int32 → MzM → Int64 → Prop) : Prop := wp_PL_close a1 M (fun M' => K 0 M' ov) (fun X M' => (X = "java/lang/IllegalArgumentException" ∧ K 1 M' ov) ∨ (X = "java/lang/IllegalStateException" ∧ K 2 M' ov))
theorem th_Law_close {G : MzG} {B : MzB} {d : Nat} {cO : ClassId} {o : Nat} {ov : Int64} {K : Int32 → MzM → Int64 → Prop} (hF : mzLive false B) {a1 : Int32} {M : MzM} (hL : mzLnk false M) (h : wh_Law_close a1 M ov K) : HlC G B (d + 7) hh_Law_close mm_Law_close [.ref (mz_ad B (0, 0)), .int a1] M cO o ov (fun v M' ov' => mzLnk false M' ∧ K v M' ov') := by
  unfold wh_Law_close at h
  exact HlC.of rfl (Nat.le_of_ble_eq_true rfl) (show MzH G (B, cO, o, fun v M' ov' => mzLnk false M' ∧ K v M' ov') (d + 7) hh_Law_close mm_Law_close M ov (1, 6) 0 [(0, .ref (mz_ad B (0, 0))), (1, .int a1)] [] from mh_aload_n d_Law_close_0 rfl (mh_iload_n d_Law_close_1 rfl (mh_callX (As := [.int a1]) (st := []) (hF 0 0 rfl (by decide)) rfl (mzClOf cl_0) d_Law_close_2 cs_PL_close wl_Law_7 wi_PL_close wse_PL_close (Nat.le_of_ble_eq_true rfl) (Nat.le_of_ble_eq_true rfl) (Nat.le_of_ble_eq_true rfl) (MzCX.mono (tm_PL_close (d := d) hF hL h) (fun r B1 M1 hq => by
    obtain ⟨rfl, hL1, hq⟩ := hq
    refine ⟨rfl, ?_⟩
    rcases hq with ⟨rfl, hq⟩ | ⟨X, rfl, hq⟩
    · left
      exact ⟨none, rfl, (mh_goto 14 d_Law_close_5 rfl (mh_iconst 0 d_Law_close_14 (by decide) (mh_iret d_Law_close_15 rfl ⟨hL1, hq⟩)))⟩
    · right
      rcases hq with ⟨rfl, hq⟩ | ⟨rfl, hq⟩
      · exact ⟨_, rfl, ⟨8, ⟨[], [(0, 5, 11, 15)], (0, 5, 8, 13), rfl, (fun y hy => by cases hy), ⟨by decide, by decide⟩, by decide, rfl, wc_Law_13, mz_fixIn 12 rfl⟩, fun a => (mh_astore_n d_Law_close_8 (by decide) (mh_iconst 1 d_Law_close_9 (by decide) (mh_iret d_Law_close_10 rfl ⟨hL1, hq⟩)))⟩⟩
      · exact ⟨_, rfl, ⟨11, ⟨[(0, 5, 8, 13)], [], (0, 5, 11, 15), rfl, (fun y hy => by rw [List.mem_singleton.mp hy]; exact ⟨by decide, _, wc_Law_13, mz_fixIn 15 rfl⟩), ⟨by decide, by decide⟩, by decide, rfl, wc_Law_15, mz_fixIn 13 rfl⟩, fun a => (mh_astore_n d_Law_close_11 (by decide) (mh_iconst 2 d_Law_close_12 (by decide) (mh_iret d_Law_close_13 rfl ⟨hL1, hq⟩)))⟩⟩)))))
def wh_Law_bring (a1 : Int32) (a2 : Int32) (M : MzM) (ov : Int64) (K : Int32 → MzM → Int64 → Prop) : Prop := wp_PL_bring a1 a2 M (fun M' => K 0 M' ov) (fun X M' => (X = "java/lang/IllegalArgumentException" ∧ K 1 M' ov) ∨ (X = "java/lang/IllegalStateException" ∧ K 2 M' ov))
theorem th_Law_bring {G : MzG} {B : MzB} {d : Nat} {cO : ClassId} {o : Nat} {ov : Int64} {K : Int32 → MzM → Int64 → Prop} (hF : mzLive false B) {a1 : Int32} {a2 : Int32} {M : MzM} (hL : mzLnk false M) (h : wh_Law_bring a1 a2 M ov K) : HlC G B (d + 7) hh_Law_bring mm_Law_bring [.ref (mz_ad B (0, 0)), .int a1, .int a2] M cO o ov (fun v M' ov' => mzLnk false M' ∧ K v M' ov') := by
  unfold wh_Law_bring at h
  exact HlC.of rfl (Nat.le_of_ble_eq_true rfl) (show MzH G (B, cO, o, fun v M' ov' => mzLnk false M' ∧ K v M' ov') (d + 7) hh_Law_bring mm_Law_bring M ov (1, 6) 0 [(0, .ref (mz_ad B (0, 0))), (1, .int a1), (2, .int a2)] [] from mh_aload_n d_Law_bring_0 rfl (mh_iload_n d_Law_bring_1 rfl (mh_iload_n d_Law_bring_2 rfl (mh_callX (As := [.int a1, .int a2]) (st := []) (hF 0 0 rfl (by decide)) rfl (mzClOf cl_0) d_Law_bring_3 cs_PL_bring wl_Law_17 wi_PL_bring wse_PL_bring (Nat.le_of_ble_eq_true rfl) (Nat.le_of_ble_eq_true rfl) (Nat.le_of_ble_eq_true rfl) (MzCX.mono (tm_PL_bring (d := d) hF hL h) (fun r B1 M1 hq => by
    obtain ⟨rfl, hL1, hq⟩ := hq
    refine ⟨rfl, ?_⟩
    rcases hq with ⟨rfl, hq⟩ | ⟨X, rfl, hq⟩
    · left
      exact ⟨none, rfl, (mh_goto 15 d_Law_bring_6 rfl (mh_iconst 0 d_Law_bring_15 (by decide) (mh_iret d_Law_bring_16 rfl ⟨hL1, hq⟩)))⟩
    · right
      rcases hq with ⟨rfl, hq⟩ | ⟨rfl, hq⟩
      · exact ⟨_, rfl, ⟨9, ⟨[], [(0, 6, 12, 15)], (0, 6, 9, 13), rfl, (fun y hy => by cases hy), ⟨by decide, by decide⟩, by decide, rfl, wc_Law_13, mz_fixIn 12 rfl⟩, fun a => (mh_astore_n d_Law_bring_9 (by decide) (mh_iconst 1 d_Law_bring_10 (by decide) (mh_iret d_Law_bring_11 rfl ⟨hL1, hq⟩)))⟩⟩
      · exact ⟨_, rfl, ⟨12, ⟨[(0, 6, 9, 13)], [], (0, 6, 12, 15), rfl, (fun y hy => by rw [List.mem_singleton.mp hy]; exact ⟨by decide, _, wc_Law_13, mz_fixIn 15 rfl⟩), ⟨by decide, by decide⟩, by decide, rfl, wc_Law_15, mz_fixIn 13 rfl⟩, fun a => (mh_astore_n d_Law_bring_12 (by decide) (mh_iconst 2 d_Law_bring_13 (by decide) (mh_iret d_Law_bring_14 rfl ⟨hL1, hq⟩)))⟩⟩))))))
def wh_Law_take (a1 : Int32) (M : MzM) (ov : Int64) (K : Int32 → MzM → Int64 → Prop) : Prop := wp_PL_take a1 M (fun v M' => K 0 M' v.toInt64) (fun X M' => (X = "java/lang/IllegalArgumentException" ∧ K 1 M' ov) ∨ (X = "java/util/NoSuchElementException" ∧ K 2 M' ov))
theorem th_Law_take {G : MzG} {B : MzB} {d : Nat} {cO : ClassId} {o : Nat} {ov : Int64} {K : Int32 → MzM → Int64 → Prop} (hF : mzLive false B) {a1 : Int32} {M : MzM} (hL : mzLnk false M) (h : wh_Law_take a1 M ov K) : HlC G B (d + 7) hh_Law_take mm_Law_take [.ref (mz_ad B (0, 0)), .int a1, .ref o] M cO o ov (fun v M' ov' => mzLnk false M' ∧ K v M' ov') := by
  unfold wh_Law_take at h
  exact HlC.of rfl (Nat.le_of_ble_eq_true rfl) (show MzH G (B, cO, o, fun v M' ov' => mzLnk false M' ∧ K v M' ov') (d + 7) hh_Law_take mm_Law_take M ov (1, 6) 0 [(0, .ref (mz_ad B (0, 0))), (1, .int a1), (2, .ref o)] [] from mh_aload_n d_Law_take_0 rfl (mh_iconst 0 d_Law_take_1 (by decide) (mh_aload_n d_Law_take_2 rfl (mh_iload_n d_Law_take_3 rfl (mh_callX (As := [.int a1]) (st := [.int 0, .ref o]) (hF 0 0 rfl (by decide)) rfl (mzClOf cl_0) d_Law_take_4 cs_PL_take wl_Law_21 wi_PL_take wse_PL_take (Nat.le_of_ble_eq_true rfl) (Nat.le_of_ble_eq_true rfl) (Nat.le_of_ble_eq_true rfl) (MzCX.mono (tm_PL_take (d := d) hF hL h) (fun r B1 M1 hq => by
    obtain ⟨rfl, hL1, hq⟩ := hq
    refine ⟨rfl, ?_⟩
    rcases hq with ⟨v, rfl, hq⟩ | ⟨X, rfl, hq⟩
    · left
      exact ⟨some (.int v), rfl, (mh_i2l d_Law_take_7 (mh_last d_Law_take_8 (mh_goto 18 d_Law_take_9 rfl (mh_iconst 0 d_Law_take_18 (by decide) (mh_iret d_Law_take_19 rfl ⟨hL1, hq⟩)))))⟩
    · right
      rcases hq with ⟨rfl, hq⟩ | ⟨rfl, hq⟩
      · exact ⟨_, rfl, ⟨12, ⟨[], [(0, 9, 15, 25)], (0, 9, 12, 13), rfl, (fun y hy => by cases hy), ⟨by decide, by decide⟩, by decide, rfl, wc_Law_13, mz_fixIn 12 rfl⟩, fun a => (mh_astore_n d_Law_take_12 (by decide) (mh_iconst 1 d_Law_take_13 (by decide) (mh_iret d_Law_take_14 rfl ⟨hL1, hq⟩)))⟩⟩
      · exact ⟨_, rfl, ⟨15, ⟨[(0, 9, 12, 13)], [], (0, 9, 15, 25), rfl, (fun y hy => by rw [List.mem_singleton.mp hy]; exact ⟨by decide, _, wc_Law_13, mz_fixIn 16 rfl⟩), ⟨by decide, by decide⟩, by decide, rfl, wc_Law_25, mz_fixIn 14 rfl⟩, fun a => (mh_astore_n d_Law_take_15 (by decide) (mh_iconst 2 d_Law_take_16 (by decide) (mh_iret d_Law_take_17 rfl ⟨hL1, hq⟩)))⟩⟩)))))))
def wh_Law_job (a1 : Int32) (a2 : Int32) (a3 : Int32) (a4 : Int32) (M : MzM) (ov : Int64) (K : Int32 → MzM → Int64 → Prop) : Prop := wp_PL_job a1 a2 a3 a4 M (fun M' => K 0 M' ov) (fun X M' => (X = "java/lang/IllegalArgumentException" ∧ K 1 M' ov) ∨ (X = "java/lang/IllegalStateException" ∧ K 2 M' ov))
theorem th_Law_job {G : MzG} {B : MzB} {d : Nat} {cO : ClassId} {o : Nat} {ov : Int64} {K : Int32 → MzM → Int64 → Prop} (hF : mzLive false B) {a1 : Int32} {a2 : Int32} {a3 : Int32} {a4 : Int32} {M : MzM} (hL : mzLnk false M) (h : wh_Law_job a1 a2 a3 a4 M ov K) : HlC G B (d + 7) hh_Law_job mm_Law_job [.ref (mz_ad B (0, 0)), .int a1, .int a2, .int a3, .int a4] M cO o ov (fun v M' ov' => mzLnk false M' ∧ K v M' ov') := by
  unfold wh_Law_job at h
  exact HlC.of rfl (Nat.le_of_ble_eq_true rfl) (show MzH G (B, cO, o, fun v M' ov' => mzLnk false M' ∧ K v M' ov') (d + 7) hh_Law_job mm_Law_job M ov (1, 6) 0 [(0, .ref (mz_ad B (0, 0))), (1, .int a1), (2, .int a2), (3, .int a3), (4, .int a4)] [] from mh_aload_n d_Law_job_0 rfl (mh_iload_n d_Law_job_1 rfl (mh_iload_n d_Law_job_2 rfl (mh_iload_n d_Law_job_3 rfl (mh_iload d_Law_job_4 rfl (mh_callX (As := [.int a1, .int a2, .int a3, .int a4]) (st := []) (hF 0 0 rfl (by decide)) rfl (mzClOf cl_0) d_Law_job_6 cs_PL_job wl_Law_27 wi_PL_job wse_PL_job (Nat.le_of_ble_eq_true rfl) (Nat.le_of_ble_eq_true rfl) (Nat.le_of_ble_eq_true rfl) (MzCX.mono (tm_PL_job (d := d) hF hL h) (fun r B1 M1 hq => by
    obtain ⟨rfl, hL1, hq⟩ := hq
    refine ⟨rfl, ?_⟩
    rcases hq with ⟨rfl, hq⟩ | ⟨X, rfl, hq⟩
    · left
      exact ⟨none, rfl, (mh_goto 20 d_Law_job_9 rfl (mh_iconst 0 d_Law_job_20 (by decide) (mh_iret d_Law_job_21 rfl ⟨hL1, hq⟩)))⟩
    · right
      rcases hq with ⟨rfl, hq⟩ | ⟨rfl, hq⟩
      · exact ⟨_, rfl, ⟨12, ⟨[], [(0, 9, 16, 15)], (0, 9, 12, 13), rfl, (fun y hy => by cases hy), ⟨by decide, by decide⟩, by decide, rfl, wc_Law_13, mz_fixIn 12 rfl⟩, fun a => (mh_astore d_Law_job_12 (by decide) (mh_iconst 1 d_Law_job_14 (by decide) (mh_iret d_Law_job_15 rfl ⟨hL1, hq⟩)))⟩⟩
      · exact ⟨_, rfl, ⟨16, ⟨[(0, 9, 12, 13)], [], (0, 9, 16, 15), rfl, (fun y hy => by rw [List.mem_singleton.mp hy]; exact ⟨by decide, _, wc_Law_13, mz_fixIn 15 rfl⟩), ⟨by decide, by decide⟩, by decide, rfl, wc_Law_15, mz_fixIn 13 rfl⟩, fun a => (mh_astore d_Law_job_16 (by decide) (mh_iconst 2 d_Law_job_18 (by decide) (mh_iret d_Law_job_19 rfl ⟨hL1, hq⟩)))⟩⟩))))))))
def wh_Law_step  (M : MzM) (ov : Int64) (K : Int32 → MzM → Int64 → Prop) : Prop := wp_PL_step  M (fun v M' => K 0 M' v.toInt64) (fun X M' => (X = "java/lang/IllegalStateException" ∧ K 1 M' ov))
theorem th_Law_step {G : MzG} {B : MzB} {d : Nat} {cO : ClassId} {o : Nat} {ov : Int64} {K : Int32 → MzM → Int64 → Prop} (hF : mzLive false B)  {M : MzM} (hL : mzLnk false M) (h : wh_Law_step  M ov K) : HlC G B (d + 11) hh_Law_step mm_Law_step [.ref (mz_ad B (0, 0)), .ref o] M cO o ov (fun v M' ov' => mzLnk false M' ∧ K v M' ov') := by
  unfold wh_Law_step at h
  exact HlC.of rfl (Nat.le_of_ble_eq_true rfl) (show MzH G (B, cO, o, fun v M' ov' => mzLnk false M' ∧ K v M' ov') (d + 11) hh_Law_step mm_Law_step M ov (1, 6) 0 [(0, .ref (mz_ad B (0, 0))), (1, .ref o)] [] from mh_aload_n d_Law_step_0 rfl (mh_iconst 0 d_Law_step_1 (by decide) (mh_aload_n d_Law_step_2 rfl (mh_callX (As := []) (st := [.int 0, .ref o]) (hF 0 0 rfl (by decide)) rfl (mzClOf cl_0) d_Law_step_3 cs_PL_step wl_Law_31 wi_PL_step wse_PL_step (Nat.le_of_ble_eq_true rfl) (Nat.le_of_ble_eq_true rfl) (Nat.le_of_ble_eq_true rfl) (MzCX.mono (tm_PL_step (d := d) hF hL h) (fun r B1 M1 hq => by
    obtain ⟨rfl, hL1, hq⟩ := hq
    refine ⟨rfl, ?_⟩
    rcases hq with ⟨v, rfl, hq⟩ | ⟨X, rfl, hq⟩
    · left
      exact ⟨some (.int v), rfl, (mh_i2l d_Law_step_6 (mh_last d_Law_step_7 (mh_goto 14 d_Law_step_8 rfl (mh_iconst 0 d_Law_step_14 (by decide) (mh_iret d_Law_step_15 rfl ⟨hL1, hq⟩)))))⟩
    · right
      obtain ⟨rfl, hq⟩ := hq
      exact ⟨_, rfl, ⟨11, ⟨[], [], (0, 8, 11, 15), rfl, (fun y hy => by cases hy), ⟨by decide, by decide⟩, by decide, rfl, wc_Law_15, mz_fixIn 13 rfl⟩, fun a => (mh_astore_n d_Law_step_11 (by decide) (mh_iconst 1 d_Law_step_12 (by decide) (mh_iret d_Law_step_13 rfl ⟨hL1, hq⟩)))⟩⟩))))))
