abbrev MzJG : Type := (Launch → Prop) × (List Frame → Array Value → State → Nat → Nat → (Nat → Prop) → State → Prop)
def MzJ (Γ : MzJG) (G : MzG) (B : MzB) (d : Nat) (mm : MzT) (M : MzM) (bu : Nat × Nat) (pc : Nat) (lv : List (Nat × Value)) (st : List Value) : Prop :=
  ∀ (p : Program) (l : Launch) (e : Env) (mc ms : Nat) (s : State) (m : MethodId) (args : Array Value) (below : List Frame) (meth : Method) (c : Code) (A : Nat → Prop) (cells slots : Nat) (ls : Array Slot),
    Γ.1 l → c.exceptionTable.isEmpty = true → mzX mm p s m args meth c → lv_has ls mm.2.2.1 lv → mzI G B M A s s.heap [] → cells + bu.1 ≤ mc → slots + bu.2 ≤ ms →
    W p l e (mzRm d mc ms) s m args below meth c s.heap [] cells slots (Γ.2 below args s mc ms A) (F0 m pc ls st)
/-- a method that may throw -/
def mzGP (G : MzG) (Q : MzR → MzB → MzM → Prop) : MzJG := (fun l => l.stackTraces = false, fun below args s mc ms A t => ∃ o, t.status = .running ∧ Ended t below o ∧ mzQ G Q A args s o t ∧ ((∃ L, FrameEnd s o t L mc ms ∧ ∀ q ∈ L, A q.base) ∨ (∃ a, o = .threw a ∧ s.WarmedH t.vm ∧ s.sameButNew ({ t with vm := s.vm } : State) [] mc ms)))
/-- a method that only answers an int -/
def mzZQ (K : Int32 → Prop) : Array Value → State → Outcome → State → Prop := fun _ st oc t => ∃ v : Int32, oc = .returned (some (.int v)) ∧ K v ∧ t.heap = st.heap
def mzGZ (K : Int32 → Prop) : MzJG := (fun _ => True, fun below args s mc ms _ => MQ below (mzZQ K) args s mc ms (fun _ => False))
def MzCX (G : MzG) (B : MzB) (d : Nat) (mm : MzT) (av : List Value) (M : MzM) (bu : Nat × Nat) (Q : MzR → MzB → MzM → Prop) : Prop :=
  ∀ (l : Launch) (sz : Nat), l.stackTraces = false → MetFree l mm.1 (headSpec (mzWs mm) (mzRm d bu.1 bu.2)) (va_Pc av (mzPre G B M sz)) (fun _ _ _ _ _ => True) (fun a st o t => mzQ G Q (va_A (mz_w B M) sz) a st o t ∧ ((∃ L, FrameEnd st o t L bu.1 bu.2 ∧ ∀ q ∈ L, va_A (mz_w B M) sz q.base) ∨ (∃ x, o = .threw x ∧ st.WarmedH t.vm ∧ st.sameButNew ({ t with vm := st.vm } : State) [] bu.1 bu.2)))
def MzCp (G : MzG) (B : MzB) (d : Nat) (mm : MzT) (av : List Value) (M : MzM) (K : Int32 → Prop) : Prop :=
  ∀ (l : Launch) (sz : Nat), Met l mm.1 (mzWs mm) (mzRm d 0 0) (va_Pc av (mzPre G B M sz)) (mzZQ K) 0 0 (fun _ => False)
theorem mz_exc {mm : MzT} {args : Array Value} {s : State} {m : MethodId} {meth : Method} {c : Code} (hn : s.methodNamed? mm.1 = some m) (hm : s.vm.method? m = some meth) (hc : meth.code = some c) (h : (Cond.code mm.1 mm.2.1 mm.2.2.1 mm.2.2.2).before args s = true) : c.exceptionTable.isEmpty = true := by
  obtain ⟨meth', c', h1, h2, -, -, -, -, h7, -⟩ := Cond.code_spec hn h
  cases hm.symm.trans h1
  cases hc.symm.trans h2
  exact h7
theorem mz_codeOf {T : State} {m : MethodId} {c : Code} {below : List Frame} {meth : Method} (h : At T m c below) (hm : T.vm.method? m = some meth) : meth.code = some c := by
  have h1 := h.code
  rw [State.code?_eq, hm] at h1
  exact h1
set_option maxHeartbeats 4000000 in
theorem MzCX.of {G : MzG} {B : MzB} {d : Nat} {mm : MzT} {av : List Value} {M : MzM} {bu : Nat × Nat} {Q : MzR → MzB → MzM → Prop} (hpl : plainName mm.1.cls = true) (hlen : (lg_sl av).length ≤ mm.2.2.1) (h : MzJ (mzGP G Q) G B d mm M bu 0 (lv_args 0 av) []) : MzCX G B d mm av M bu Q := by
  intro l sz hst
  refine MetFree.of_bodyS (code := mm.2.1) (maxLocals := mm.2.2.1) (ret := mm.2.2.2) hpl ?_ ?_
  · intro args s m h hn
    obtain ⟨meth, c, h1, h2, h3, h4, h5, h6, -, -⟩ := Cond.code_spec hn (atoms_spec (ws := mzWs mm) h _ List.mem_cons_self)
    exact ⟨meth, c, h1, h2, h3, h4, h5, h6⟩
  · intro p e s m args below meth c s₁ B0 hml hP _
    obtain ⟨rfl, hsz, hPw, hK, hD0, hR⟩ := hP
    have hl := lv_entry av (n := mm.2.2.1) hlen
    have hh0 : s₁.heap = s.heap := by rw [B0.state]; rfl
    have hts := atoms_spec (ws := mzWs mm) B0.pre
    have hmc : meth.code = some c := mz_codeOf B0.here (by rw [B0.state]; exact B0.method)
    subst hsz
    rw [lg_entry_eq]
    obtain ⟨t, a1, o, b1, b2, b3, b4⟩ := h p l e bu.1 bu.2 s m _ below meth c (va_A (mz_w B M) s.heap.size) 0 0 _ hst (mz_exc B0.named B0.method hmc (hts _ List.mem_cons_self)) ⟨B0.exec, B0.bytes, hml, B0.returns, hts, findClass_of_methodNamed B0.named, B0.notSynchronized, (name_of_methodNamed B0.named B0.method).1⟩ hl ⟨hK, hPw, hD0.self, va_S.rf, fun q hq => Or.inr hq, hR⟩ (by omega) (by omega) s₁ hh0 (Stand.of_body B0)
    exact ⟨t, o, a1, b1, b2, b3, b4⟩
set_option maxHeartbeats 4000000 in
theorem MzCp.of {G : MzG} {B : MzB} {d : Nat} {mm : MzT} {av : List Value} {M : MzM} {K : Int32 → Prop} (hpl : plainName mm.1.cls = true) (hlen : (lg_sl av).length ≤ mm.2.2.1) (h : MzJ (mzGZ K) G B d mm M (0, 0) 0 (lv_args 0 av) []) : MzCp G B d mm av M K := by
  intro l sz
  refine Met.ofW (cc := mm.2.1) (maxL := mm.2.2.1) (ret := mm.2.2.2) hpl rfl ?_
  intro p e s m args below meth c s₁ B0 hml hv
  obtain ⟨rfl, hsz, hP, hK, hD0, hR⟩ := hv
  have hl := lv_entry av (n := mm.2.2.1) hlen
  have hts := atoms_spec (ws := mzWs mm) B0.pre
  have hmc : meth.code = some c := mz_codeOf B0.here (by rw [B0.state]; exact B0.method)
  rw [lg_entry_eq]
  subst hsz
  exact h p l e 0 0 s m _ below meth c (va_A (mz_w B M) s.heap.size) 0 0 _ trivial (mz_exc B0.named B0.method hmc (hts _ List.mem_cons_self)) ⟨B0.exec, B0.bytes, hml, B0.returns, hts, findClass_of_methodNamed B0.named, B0.notSynchronized, (name_of_methodNamed B0.named B0.method).1⟩ hl ⟨hK, hP, hD0.self, va_S.rf, fun q hq => Or.inr hq, hR⟩ (by omega) (by omega)
theorem MzCp.mono {G : MzG} {B : MzB} {d : Nat} {mm : MzT} {av : List Value} {M : MzM} {K K' : Int32 → Prop} (h : MzCp G B d mm av M K) (hK : ∀ v, K v → K' v) : MzCp G B d mm av M K' := by
  intro l sz
  refine MetFree.mono (h l sz) (fun _ _ h => h) (fun _ _ _ _ _ h => h) ?_
  intro a st o t _ h1
  obtain ⟨⟨v, q1, q2, q3⟩, q5⟩ := h1
  exact ⟨⟨v, q1, hK v q2, q3⟩, q5⟩
def mzX0 (g : Bool) (B : MzB) (K : MzM → Prop) (KX : String → MzM → Prop) : MzR → MzB → MzM → Prop := fun r B' M' => B = B' ∧ mzLnk g M' ∧ ((r = .inl none ∧ K M') ∨ ∃ X, r = .inr X ∧ KX X M')
def mzX1 (g : Bool) (B : MzB) (K : Int32 → MzM → Prop) (KX : String → MzM → Prop) : MzR → MzB → MzM → Prop := fun r B' M' => B = B' ∧ mzLnk g M' ∧ ((∃ v : Int32, r = .inl (some (.int v)) ∧ K v M') ∨ ∃ X, r = .inr X ∧ KX X M')
section MzJRules
variable {Γ : MzJG} {G : MzG} {B : MzB} {d : Nat} {mm : MzT} {M : MzM} {bu : Nat × Nat} {pc : Nat} {lv : List (Nat × Value)} {st : List Value}
theorem MzJ.ofS {Q : MzR → MzB → MzM → Prop} (h : MzS G B d mm M bu Q pc lv st) : MzJ (mzGP G Q) G B d mm M bu pc lv st := by
  intro p l e mc ms s m args below meth c A cells slots ls hg hex hX hl hI c1 c2 T hT X
  obtain ⟨t, a1, o, b1, b2, b3, b4⟩ := h p l e mc ms s m args below meth c A s.heap [] cells slots ls hX hl hI c1 c2 T hT X
  exact ⟨t, a1, o, b1, b2, b3, Or.inl b4⟩
theorem MzJ.loc (lv' : List (Nat × Value)) (hs : mzSub lv lv') (h : MzJ Γ G B d mm M bu pc lv' st) : MzJ Γ G B d mm M bu pc lv st :=
  fun p l e mc ms s m args below meth c A cells slots ls hg hex hX hl hI c1 c2 => h p l e mc ms s m args below meth c A cells slots ls hg hex hX ⟨hl.1, hl.2.1, fun q hq => hl.2.2 q (mz_lk_mem (mzSub_all hs q hq))⟩ hI c1 c2
theorem mj_iconst {n : Int} (v : Int32) (hd : decode mm.2.1 pc = .ok (.iconst n, 1)) (hv : Int32.ofInt n = v) (h : MzJ Γ G B d mm M bu (pc + 1) lv (.int v :: st)) : MzJ Γ G B d mm M bu pc lv st :=
  fun p l e mc ms s m args below meth c A cells slots ls hg hex hX hl hI c1 c2 => lv_iconst hX.1 hX.2.1 hd hv (h p l e mc ms s m args below meth c A cells slots ls hg hex hX hl hI c1 c2)
theorem mj_bipush {n : Int} (v : Int32) (hd : decode mm.2.1 pc = .ok (.bipush n, 2)) (hv : (Int8.ofInt n).toInt32 = v) (h : MzJ Γ G B d mm M bu (pc + 2) lv (.int v :: st)) : MzJ Γ G B d mm M bu pc lv st :=
  fun p l e mc ms s m args below meth c A cells slots ls hg hex hX hl hI c1 c2 => lv_bipush hX.1 hX.2.1 hd hv (h p l e mc ms s m args below meth c A cells slots ls hg hex hX hl hI c1 c2)
theorem mj_sipush {n : Int} (v : Int32) (hd : decode mm.2.1 pc = .ok (.sipush n, 3)) (hv : (Int16.ofInt n).toInt32 = v) (h : MzJ Γ G B d mm M bu (pc + 3) lv (.int v :: st)) : MzJ Γ G B d mm M bu pc lv st :=
  fun p l e mc ms s m args below meth c A cells slots ls hg hex hX hl hI c1 c2 => lv_sipush hX.1 hX.2.1 hd hv (h p l e mc ms s m args below meth c A cells slots ls hg hex hX hl hI c1 c2)
theorem mj_idiv {x y : Int32} (hd : decode mm.2.1 pc = .ok (.idiv, 1)) (hne : ¬ y = 0) (h : MzJ Γ G B d mm M bu (pc + 1) lv (.int (x / y) :: st)) : MzJ Γ G B d mm M bu pc lv (.int y :: .int x :: st) :=
  fun p l e mc ms s m args below meth c A cells slots ls hg hex hX hl hI c1 c2 => lv_idiv hX.1 hX.2.1 hd hne (h p l e mc ms s m args below meth c A cells slots ls hg hex hX hl hI c1 c2)
theorem mj_irem {x y : Int32} (hd : decode mm.2.1 pc = .ok (.irem, 1)) (hne : ¬ y = 0) (h : MzJ Γ G B d mm M bu (pc + 1) lv (.int (x - x / y * y) :: st)) : MzJ Γ G B d mm M bu pc lv (.int y :: .int x :: st) :=
  fun p l e mc ms s m args below meth c A cells slots ls hg hex hX hl hI c1 c2 => lv_irem hX.1 hX.2.1 hd hne (h p l e mc ms s m args below meth c A cells slots ls hg hex hX hl hI c1 c2)
theorem mj_iload_n {k : Fin 4} {x : Int32} (hd : decode mm.2.1 pc = .ok (.iload_n k, 1)) (hk : mz_lk lv k.val = some (.int x)) (h : MzJ Γ G B d mm M bu (pc + 1) lv ((.int x) :: st)) : MzJ Γ G B d mm M bu pc lv st :=
  fun p l e mc ms s m args below meth c A cells slots ls hg hex hX hl hI c1 c2 => lv_iload_n hX.1 hX.2.1 hd rfl (mz_lk_at hl hk) (h p l e mc ms s m args below meth c A cells slots ls hg hex hX hl hI c1 c2)
theorem mj_iload {k : Nat} {x : Int32} (hd : decode mm.2.1 pc = .ok (.iload k, 2)) (hk : mz_lk lv k = some (.int x)) (h : MzJ Γ G B d mm M bu (pc + 2) lv ((.int x) :: st)) : MzJ Γ G B d mm M bu pc lv st :=
  fun p l e mc ms s m args below meth c A cells slots ls hg hex hX hl hI c1 c2 => lv_iload hX.1 hX.2.1 hd (mz_lk_at hl hk) (h p l e mc ms s m args below meth c A cells slots ls hg hex hX hl hI c1 c2)
theorem mj_aload_n {k : Fin 4} {x : Nat} (hd : decode mm.2.1 pc = .ok (.aload_n k, 1)) (hk : mz_lk lv k.val = some (.ref x)) (h : MzJ Γ G B d mm M bu (pc + 1) lv ((.ref x) :: st)) : MzJ Γ G B d mm M bu pc lv st :=
  fun p l e mc ms s m args below meth c A cells slots ls hg hex hX hl hI c1 c2 => lv_aload_n hX.1 hX.2.1 hd rfl (mz_lk_at hl hk) (h p l e mc ms s m args below meth c A cells slots ls hg hex hX hl hI c1 c2)
theorem mj_istore_n {k : Fin 4} {x : Int32} (hd : decode mm.2.1 pc = .ok (.istore_n k, 1)) (hn : k.val < mm.2.2.1) (h : MzJ Γ G B d mm M bu (pc + 1) (mz_st lv k.val (.int x)) st) : MzJ Γ G B d mm M bu pc lv ((.int x) :: st) :=
  fun p l e mc ms s m args below meth c A cells slots ls hg hex hX hl hI c1 c2 => lv_istore_n hX.1 hX.2.1 hd rfl hl hn rfl (fun ls' hl' => h p l e mc ms s m args below meth c A cells slots ls' hg hex hX hl' hI c1 c2)
theorem mj_iinc {i : Nat} {n : Int} {x : Int32} (v : Int32) (hd : decode mm.2.1 pc = .ok (.iinc i n, 3)) (hk : mz_lk lv i = some (.int x)) (hn : i < mm.2.2.1) (hv : x + Int32.ofInt n = v) (h : MzJ Γ G B d mm M bu (pc + 3) (mz_st lv i (.int v)) st) : MzJ Γ G B d mm M bu pc lv st := by
  intro p l e mc ms s m args below meth c A cells slots ls hg hex hX hl hI c1 c2
  obtain ⟨k, hk'⟩ := List.getElem?_of_mem (mz_lk_mem hk)
  exact lv_iinc hX.1 hX.2.1 hd hl hk' hv hn rfl (fun ls' hl' => h p l e mc ms s m args below meth c A cells slots ls' hg hex hX hl' hI c1 c2)
theorem mj_if_eq {x : Int32} {off : Int} (tgt : Nat) (hd : decode mm.2.1 pc = .ok (.ifCond .eq off, 3)) (ht : (pc : Int) + off = (tgt : Int)) (kt : x = 0 → MzJ Γ G B d mm M bu tgt lv st) (kf : ¬ x = 0 → MzJ Γ G B d mm M bu (pc + 3) lv st) : MzJ Γ G B d mm M bu pc lv (.int x :: st) :=
  fun p l e mc ms s m args below meth c A cells slots ls hg hex hX hl hI c1 c2 => lv_if_eq hX.1 hX.2.1 hd ht (fun hc => kt hc p l e mc ms s m args below meth c A cells slots ls hg hex hX hl hI c1 c2) (fun hc => kf hc p l e mc ms s m args below meth c A cells slots ls hg hex hX hl hI c1 c2)
theorem mj_if_lt {x : Int32} {off : Int} (tgt : Nat) (hd : decode mm.2.1 pc = .ok (.ifCond .lt off, 3)) (ht : (pc : Int) + off = (tgt : Int)) (kt : x < 0 → MzJ Γ G B d mm M bu tgt lv st) (kf : ¬ x < 0 → MzJ Γ G B d mm M bu (pc + 3) lv st) : MzJ Γ G B d mm M bu pc lv (.int x :: st) :=
  fun p l e mc ms s m args below meth c A cells slots ls hg hex hX hl hI c1 c2 => lv_if_lt hX.1 hX.2.1 hd ht (fun hc => kt hc p l e mc ms s m args below meth c A cells slots ls hg hex hX hl hI c1 c2) (fun hc => kf hc p l e mc ms s m args below meth c A cells slots ls hg hex hX hl hI c1 c2)
theorem mj_if_ge {x : Int32} {off : Int} (tgt : Nat) (hd : decode mm.2.1 pc = .ok (.ifCond .ge off, 3)) (ht : (pc : Int) + off = (tgt : Int)) (kt : 0 ≤ x → MzJ Γ G B d mm M bu tgt lv st) (kf : ¬ 0 ≤ x → MzJ Γ G B d mm M bu (pc + 3) lv st) : MzJ Γ G B d mm M bu pc lv (.int x :: st) :=
  fun p l e mc ms s m args below meth c A cells slots ls hg hex hX hl hI c1 c2 => lv_if_ge hX.1 hX.2.1 hd ht (fun hc => kt hc p l e mc ms s m args below meth c A cells slots ls hg hex hX hl hI c1 c2) (fun hc => kf hc p l e mc ms s m args below meth c A cells slots ls hg hex hX hl hI c1 c2)
theorem mj_if_gt {x : Int32} {off : Int} (tgt : Nat) (hd : decode mm.2.1 pc = .ok (.ifCond .gt off, 3)) (ht : (pc : Int) + off = (tgt : Int)) (kt : 0 < x → MzJ Γ G B d mm M bu tgt lv st) (kf : ¬ 0 < x → MzJ Γ G B d mm M bu (pc + 3) lv st) : MzJ Γ G B d mm M bu pc lv (.int x :: st) :=
  fun p l e mc ms s m args below meth c A cells slots ls hg hex hX hl hI c1 c2 => lv_if_gt hX.1 hX.2.1 hd ht (fun hc => kt hc p l e mc ms s m args below meth c A cells slots ls hg hex hX hl hI c1 c2) (fun hc => kf hc p l e mc ms s m args below meth c A cells slots ls hg hex hX hl hI c1 c2)
theorem mj_if_le {x : Int32} {off : Int} (tgt : Nat) (hd : decode mm.2.1 pc = .ok (.ifCond .le off, 3)) (ht : (pc : Int) + off = (tgt : Int)) (kt : x ≤ 0 → MzJ Γ G B d mm M bu tgt lv st) (kf : ¬ x ≤ 0 → MzJ Γ G B d mm M bu (pc + 3) lv st) : MzJ Γ G B d mm M bu pc lv (.int x :: st) :=
  fun p l e mc ms s m args below meth c A cells slots ls hg hex hX hl hI c1 c2 => lv_if_le hX.1 hX.2.1 hd ht (fun hc => kt hc p l e mc ms s m args below meth c A cells slots ls hg hex hX hl hI c1 c2) (fun hc => kf hc p l e mc ms s m args below meth c A cells slots ls hg hex hX hl hI c1 c2)
theorem mj_if_ne {x : Int32} {off : Int} (tgt : Nat) (hd : decode mm.2.1 pc = .ok (.ifCond .ne off, 3)) (ht : (pc : Int) + off = (tgt : Int)) (kt : ¬ x = 0 → MzJ Γ G B d mm M bu tgt lv st) (kf : x = 0 → MzJ Γ G B d mm M bu (pc + 3) lv st) : MzJ Γ G B d mm M bu pc lv (.int x :: st) :=
  fun p l e mc ms s m args below meth c A cells slots ls hg hex hX hl hI c1 c2 => lv_if_ne hX.1 hX.2.1 hd ht (fun hc => kt hc p l e mc ms s m args below meth c A cells slots ls hg hex hX hl hI c1 c2) (fun hc => kf hc p l e mc ms s m args below meth c A cells slots ls hg hex hX hl hI c1 c2)
theorem mj_icmp_eq {x y : Int32} {off : Int} (tgt : Nat) (hd : decode mm.2.1 pc = .ok (.if_icmp .eq off, 3)) (ht : (pc : Int) + off = (tgt : Int)) (kt : x = y → MzJ Γ G B d mm M bu tgt lv st) (kf : ¬ x = y → MzJ Γ G B d mm M bu (pc + 3) lv st) : MzJ Γ G B d mm M bu pc lv (.int y :: .int x :: st) :=
  fun p l e mc ms s m args below meth c A cells slots ls hg hex hX hl hI c1 c2 => lv_icmp_eq hX.1 hX.2.1 hd ht (fun hc => kt hc p l e mc ms s m args below meth c A cells slots ls hg hex hX hl hI c1 c2) (fun hc => kf hc p l e mc ms s m args below meth c A cells slots ls hg hex hX hl hI c1 c2)
theorem mj_icmp_lt {x y : Int32} {off : Int} (tgt : Nat) (hd : decode mm.2.1 pc = .ok (.if_icmp .lt off, 3)) (ht : (pc : Int) + off = (tgt : Int)) (kt : x < y → MzJ Γ G B d mm M bu tgt lv st) (kf : ¬ x < y → MzJ Γ G B d mm M bu (pc + 3) lv st) : MzJ Γ G B d mm M bu pc lv (.int y :: .int x :: st) :=
  fun p l e mc ms s m args below meth c A cells slots ls hg hex hX hl hI c1 c2 => lv_icmp_lt hX.1 hX.2.1 hd ht (fun hc => kt hc p l e mc ms s m args below meth c A cells slots ls hg hex hX hl hI c1 c2) (fun hc => kf hc p l e mc ms s m args below meth c A cells slots ls hg hex hX hl hI c1 c2)
theorem mj_icmp_ge {x y : Int32} {off : Int} (tgt : Nat) (hd : decode mm.2.1 pc = .ok (.if_icmp .ge off, 3)) (ht : (pc : Int) + off = (tgt : Int)) (kt : y ≤ x → MzJ Γ G B d mm M bu tgt lv st) (kf : ¬ y ≤ x → MzJ Γ G B d mm M bu (pc + 3) lv st) : MzJ Γ G B d mm M bu pc lv (.int y :: .int x :: st) :=
  fun p l e mc ms s m args below meth c A cells slots ls hg hex hX hl hI c1 c2 => lv_icmp_ge hX.1 hX.2.1 hd ht (fun hc => kt hc p l e mc ms s m args below meth c A cells slots ls hg hex hX hl hI c1 c2) (fun hc => kf hc p l e mc ms s m args below meth c A cells slots ls hg hex hX hl hI c1 c2)
theorem mj_icmp_gt {x y : Int32} {off : Int} (tgt : Nat) (hd : decode mm.2.1 pc = .ok (.if_icmp .gt off, 3)) (ht : (pc : Int) + off = (tgt : Int)) (kt : y < x → MzJ Γ G B d mm M bu tgt lv st) (kf : ¬ y < x → MzJ Γ G B d mm M bu (pc + 3) lv st) : MzJ Γ G B d mm M bu pc lv (.int y :: .int x :: st) :=
  fun p l e mc ms s m args below meth c A cells slots ls hg hex hX hl hI c1 c2 => lv_icmp_gt hX.1 hX.2.1 hd ht (fun hc => kt hc p l e mc ms s m args below meth c A cells slots ls hg hex hX hl hI c1 c2) (fun hc => kf hc p l e mc ms s m args below meth c A cells slots ls hg hex hX hl hI c1 c2)
theorem mj_icmp_le {x y : Int32} {off : Int} (tgt : Nat) (hd : decode mm.2.1 pc = .ok (.if_icmp .le off, 3)) (ht : (pc : Int) + off = (tgt : Int)) (kt : x ≤ y → MzJ Γ G B d mm M bu tgt lv st) (kf : ¬ x ≤ y → MzJ Γ G B d mm M bu (pc + 3) lv st) : MzJ Γ G B d mm M bu pc lv (.int y :: .int x :: st) :=
  fun p l e mc ms s m args below meth c A cells slots ls hg hex hX hl hI c1 c2 => lv_icmp_le hX.1 hX.2.1 hd ht (fun hc => kt hc p l e mc ms s m args below meth c A cells slots ls hg hex hX hl hI c1 c2) (fun hc => kf hc p l e mc ms s m args below meth c A cells slots ls hg hex hX hl hI c1 c2)
theorem mj_icmp_ne {x y : Int32} {off : Int} (tgt : Nat) (hd : decode mm.2.1 pc = .ok (.if_icmp .ne off, 3)) (ht : (pc : Int) + off = (tgt : Int)) (kt : ¬ x = y → MzJ Γ G B d mm M bu tgt lv st) (kf : x = y → MzJ Γ G B d mm M bu (pc + 3) lv st) : MzJ Γ G B d mm M bu pc lv (.int y :: .int x :: st) :=
  fun p l e mc ms s m args below meth c A cells slots ls hg hex hX hl hI c1 c2 => lv_icmp_ne hX.1 hX.2.1 hd ht (fun hc => kt hc p l e mc ms s m args below meth c A cells slots ls hg hex hX hl hI c1 c2) (fun hc => kf hc p l e mc ms s m args below meth c A cells slots ls hg hex hX hl hI c1 c2)
theorem mj_goto {off : Int} (tgt : Nat) (hd : decode mm.2.1 pc = .ok (.goto off, 3)) (ht : (pc : Int) + off = (tgt : Int)) (h : MzJ Γ G B d mm M bu tgt lv st) : MzJ Γ G B d mm M bu pc lv st :=
  fun p l e mc ms s m args below meth c A cells slots ls hg hex hX hl hI c1 c2 => lv_goto hX.1 hX.2.1 hd ht (h p l e mc ms s m args below meth c A cells slots ls hg hex hX hl hI c1 c2)
theorem mj_ldc {idx : Nat} {v : Int32} (hd : decode mm.2.1 pc = .ok (.ldc idx, 2)) (hw : Jvm.Cond.constant mm.1.cls idx v ∈ mzAll) (h : MzJ Γ G B d mm M bu (pc + 2) lv (.int v :: st)) : MzJ Γ G B d mm M bu pc lv st :=
  fun p l e mc ms s m args below meth c A cells slots ls hg hex hX hl hI c1 c2 => lv_ldc hX.1 hX.2.1 hX.2.2.2.2.2.1 (hX.2.2.2.2.1 _ (List.mem_cons_of_mem _ hw)) hd (h p l e mc ms s m args below meth c A cells slots ls hg hex hX hl hI c1 c2)
theorem mj_iretZ {K : Int32 → Prop} {v : Int32} (ty : FieldType) (hd : decode mm.2.1 pc = .ok (.ireturn, 1)) (hr : mm.2.2.2 = some ty) (hn : narrow ty (.int v) = .int v) (h : K v) : MzJ (mzGZ K) G B d mm M (0, 0) pc lv [.int v] := by
  intro p l e mc ms s m args below meth c A cells slots ls hg hex hX hl hI c1 c2
  have hlocks : meth.locks = false := hX.2.2.2.2.2.2.1
  refine W.widen (k := mc) (n := ms) (by omega) (by omega) ?_
  exact W.zret (Qc := mzZQ K) (free := fun _ => False) (locs := []) hX.1 hX.2.1 (hX.2.2.2.1.trans hr) hn (fun t ht hW => ⟨v, rfl, h, ht⟩) (fun q hq => by cases hq) hd hlocks
theorem mj_getV {i : MzL} {ci k idx N : Nat} {C : String} {T : u_T} {ty : Nat → FieldType} (hC : mzCl ci C T N ty) (hd : decode mm.2.1 pc = .ok (.getfield idx, 3)) (hk : k < N) (hw : Cond.fieldLink mm.1.cls idx (T k).1 (T k).2.1 (T k).2.2.1 ∈ mzAll) (hi : i ∈ mz_dm B) (hkd : mzKd i = .inl ci) (h : MzJ Γ G B d mm M bu (pc + 3) lv (mz_fv B M i ci k :: st)) : MzJ Γ G B d mm M bu pc lv (.ref (mz_ad B i) :: st) := by
  intro p l e mc ms s m args below meth c A cells slots ls hg hex hX hl hI c1 c2
  obtain ⟨q0, -, hq0⟩ := mz_pl M hi
  rw [mz_ce_o hkd] at hq0
  exact va_get (D := G.1) (cl := vwCl) (ci := ci) (C := C) (T := T) (N := N) (Ts := mzWs mm) hX.1 hX.2.1 hX.2.2.2.2.1 (fun w hw => List.mem_cons_of_mem _ (hC.2.1 w hw)) hX.2.2.2.2.2.1 hI.1 hI.2.1 q0 hq0 hC.1 k hk (hX.2.2.2.2.1 _ (List.mem_cons_of_mem _ hw)) (fun _ h9 => h9) (mz_fs_at (by rw [hC.2.2.2.2.1]; exact hk)) hd (h p l e mc ms s m args below meth c A cells slots ls hg hex hX hl hI c1 c2)
theorem mj_getI {i : MzL} {ci k idx N : Nat} {C : String} {T : u_T} {ty : Nat → FieldType} (hC : mzCl ci C T N ty) (hd : decode mm.2.1 pc = .ok (.getfield idx, 3)) (hk : k < N) (hw : Cond.fieldLink mm.1.cls idx (T k).1 (T k).2.1 (T k).2.2.1 ∈ mzAll) (hR : mzIsR ci k = false) (hi : i ∈ mz_dm B) (hkd : mzKd i = .inl ci) (h : MzJ Γ G B d mm M bu (pc + 3) lv (.int (mz_i M i k) :: st)) : MzJ Γ G B d mm M bu pc lv (.ref (mz_ad B i) :: st) :=
  mj_getV hC hd hk hw hi hkd (by simpa [mz_fv, hR] using h)
theorem mj_getR {i : MzL} {ci k idx N : Nat} {C : String} {T : u_T} {ty : Nat → FieldType} (hC : mzCl ci C T N ty) (hd : decode mm.2.1 pc = .ok (.getfield idx, 3)) (hk : k < N) (hw : Cond.fieldLink mm.1.cls idx (T k).1 (T k).2.1 (T k).2.2.1 ∈ mzAll) (hR : mzIsR ci k = true) (hi : i ∈ mz_dm B) (hkd : mzKd i = .inl ci) {a : MzL} (hr : mz_r M i k = some a) (h : MzJ Γ G B d mm M bu (pc + 3) lv (.ref (mz_ad B a) :: st)) : MzJ Γ G B d mm M bu pc lv (.ref (mz_ad B i) :: st) :=
  mj_getV hC hd hk hw hi hkd (by simpa [mz_fv, hR, hr, va_rf, mz_ar] using h)
theorem mj_getVN {i : MzL} {ci k idx N : Nat} {C : String} {T : u_T} {ty : Nat → FieldType} (hC : mzCl ci C T N ty) (hd : decode mm.2.1 pc = .ok (.getfield idx, 3)) (hk : k < N) {host : String} (hw : mzNw (.fieldLinkNest mm.1.cls idx (T k).1 (T k).2.1 (T k).2.2.1 host) ∈ mzRo) (hi : i ∈ mz_dm B) (hkd : mzKd i = .inl ci) (h : MzJ Γ G B d mm M bu (pc + 3) lv (mz_fv B M i ci k :: st)) : MzJ Γ G B d mm M bu pc lv (.ref (mz_ad B i) :: st) := by
  intro p l e mc ms s m args below meth c A cells slots ls hg hex hX hl hI c1 c2
  obtain ⟨q0, -, hq0⟩ := mz_pl M hi
  rw [mz_ce_o hkd] at hq0
  exact va_getN (D := G.1) (cl := vwCl) (ci := ci) (C := C) (T := T) (N := N) (Ts := mzWs mm) hX.1 hX.2.1 hX.2.2.2.2.1 (fun w hw => List.mem_cons_of_mem _ (hC.2.1 w hw)) hX.2.2.2.2.2.1 hI.1 hI.2.1 q0 hq0 hC.1 k hk (va_Nw.use rfl (hI.2.2.2.2.2 _ hw).2) (fun _ h9 => h9) (mz_fs_at (by rw [hC.2.2.2.2.1]; exact hk)) hd (h p l e mc ms s m args below meth c A cells slots ls hg hex hX hl hI c1 c2)
theorem mj_getIN {i : MzL} {ci k idx N : Nat} {C : String} {T : u_T} {ty : Nat → FieldType} (hC : mzCl ci C T N ty) (hd : decode mm.2.1 pc = .ok (.getfield idx, 3)) (hk : k < N) {host : String} (hw : mzNw (.fieldLinkNest mm.1.cls idx (T k).1 (T k).2.1 (T k).2.2.1 host) ∈ mzRo) (hR : mzIsR ci k = false) (hi : i ∈ mz_dm B) (hkd : mzKd i = .inl ci) (h : MzJ Γ G B d mm M bu (pc + 3) lv (.int (mz_i M i k) :: st)) : MzJ Γ G B d mm M bu pc lv (.ref (mz_ad B i) :: st) :=
  mj_getVN hC hd hk hw hi hkd (by simpa [mz_fv, hR] using h)
theorem mj_getRN {i : MzL} {ci k idx N : Nat} {C : String} {T : u_T} {ty : Nat → FieldType} (hC : mzCl ci C T N ty) (hd : decode mm.2.1 pc = .ok (.getfield idx, 3)) (hk : k < N) {host : String} (hw : mzNw (.fieldLinkNest mm.1.cls idx (T k).1 (T k).2.1 (T k).2.2.1 host) ∈ mzRo) (hR : mzIsR ci k = true) (hi : i ∈ mz_dm B) (hkd : mzKd i = .inl ci) {a : MzL} (hr : mz_r M i k = some a) (h : MzJ Γ G B d mm M bu (pc + 3) lv (.ref (mz_ad B a) :: st)) : MzJ Γ G B d mm M bu pc lv (.ref (mz_ad B i) :: st) :=
  mj_getVN hC hd hk hw hi hkd (by simpa [mz_fv, hR, hr, va_rf, mz_ar] using h)
theorem mj_aald {i : MzL} {n : Nat} {E : String} {x : Int32} (j : Nat) {a : MzL} (hd : decode mm.2.1 pc = .ok (.aaload, 1)) (hi : i ∈ mz_dm B) (hkd : mzKd i = .inr (.object E, n)) (hj : x.toInt = (j : Int)) (hn : j < n) (hr : mz_r M i j = some a) (h : MzJ Γ G B d mm M bu (pc + 1) lv (.ref (mz_ad B a) :: st)) : MzJ Γ G B d mm M bu pc lv (.int x :: .ref (mz_ad B i) :: st) := by
  intro p l e mc ms s m args below meth c A cells slots ls hg hex hX hl hI c1 c2
  obtain ⟨q0, -, hq0⟩ := mz_pl M hi
  obtain ⟨t0, ht0⟩ := mz_tyl hi hkd
  rw [mz_ce_r hkd rfl] at hq0
  obtain ⟨g1, g2⟩ := mz_ix hj hn
  refine va_aldq hX.1 hX.2.1 hI.1 hI.2.1 q0 t0 hq0 ht0 g1 hd ?_
  rw [g2, hr]
  exact h p l e mc ms s m args below meth c A cells slots ls hg hex hX hl hI c1 c2
theorem mj_callS {mm' : MzT} {idx : Nat} {As : List Value} (hd : decode mm.2.1 pc = .ok (.invokestatic idx, 3)) (hcs : mzCall mm mm' As.length) (hw : Cond.methodLink mm.1.cls idx mm'.1 ∈ mzAll) (hin : Cond.static mm'.1 ∈ mzAll) (hst : (st.map fun v => v.category).sum ≤ 8)
    (h : MzCp G B d mm' As M (fun v => MzJ Γ G B (d + 1) mm M bu (pc + 3) lv (.int v :: st))) : MzJ Γ G B (d + 1) mm M bu pc lv (As.reverse ++ st) := by
  intro p l e mc ms s m args below meth c A cells slots ls hg hex hX hl hI c1 c2
  have hr := va_runS (p := p) (l := l) (e := e) (R := mzRm (d + 1) mc ms) (s := s) (m := m) (args := args) (below := below) (meth := meth) (c := c) (H := s.heap) (locs := []) (cells := cells) (slots := slots) (g := F0 m pc ls (As.reverse ++ st)) (y := mm'.1) (bytes := mm'.2.1) (maxL := mm'.2.2.1) (ret := mm'.2.2.2) (ws := mzWs mm') (rm := mzRm d 0 0) (As := As) (rest := st) (nL := mm.2.2.1) (Ts := mzWs mm) (own := mm.1.cls) (n := As.length) ⟨hX.1, hX.2.1, hX.2.2.1, hX.2.2.2.2.2.1, hX.2.2.2.2.1⟩ (h l s.heap.size) ⟨callB_of As.length hX.2.2.2.2.1 (mz_good hcs.2.1) rfl rfl rfl (hX.2.2.2.2.1 _ (List.mem_cons_of_mem _ hcs.1)) (hX.2.2.2.2.1 _ (List.mem_cons_of_mem _ hw)) hcs.2.2.1 ⟨Nat.le_refl _, show 8 + (mm'.2.2.1 + 11) + 46 * d ≤ 46 * (d + 1) by have := hcs.2.2.2; omega⟩, hX.2.2.2.2.1 _ (List.mem_cons_of_mem _ hin)⟩ ⟨mz_pre_blind, fun U hU hW => mz_preOf hI hU hW⟩ rfl rfl hl.1 rfl (lv_room hst) hd ⟨show cells + 0 ≤ mc by omega, show slots + 0 ≤ ms by omega⟩
  intro T hT X
  obtain ⟨v, st₀, t, T', L, h0, X', hL, e1, e2, ⟨v', hv', hK, hh⟩, stp⟩ := hr T hT X
  cases hv'
  have hL0 : L = [] := by
    cases L with
    | nil => rfl
    | cons q r => exact (hL q List.mem_cons_self).elim
  subst hL0
  have hT' : T'.heap = s.heap := by rw [e1, hh, h0]
  obtain ⟨t2, a1, b1⟩ := hK p l e mc ms s m args below meth c A cells slots ls hg hex hX hl hI c1 c2 T' hT' X'
  exact ⟨t2, stp t2 a1, b1⟩
end MzJRules
theorem mz_same0 {s t : State} {k n : Nat} (h : s.sameButNew t [] k n) : ∀ q : Nat, q < s.heap.size → t.heap[q]? = s.heap[q]? := by
  intro q hq
  obtain ⟨-, -, -, -, -, h6⟩ := h
  have hc : s.heap[q]? = some s.heap[q] := Array.getElem?_eq_getElem hq
  obtain ⟨c', g1, g2, g3, g4⟩ := h6 q _ hc
  rw [g1, hc]
  congr 1
  rw [g2]
  have : c'.slots = s.heap[q].slots := by
    apply Array.ext_getElem?
    intro i
    exact g4 i (by simp)
  rw [this]
theorem mz_isRef {C n ds : String} {A : Nat → Prop} {args : Array Value} {s : State} {ra : Nat → Nat} (h : mzRefZ C n ds ra A s s.heap) : (Cond.isRef (.static C n ds)).before args s = true := by
  obtain ⟨v, hv, cf, kf, fi, f, a, cell, h1, h2, h3, h4, h5, h6, h7, h8⟩ := h
  have he : (Term.static C n ds).eval args s none [] s = some v := Term.static_eval h1 h2 h4 h5 h6 h7
  cases v <;> simp_all [Cond.before, Cond.holds, Cond.value, Value.isRef]
theorem mz_lays {C n ds : String} {A : Nat → Prop} {args : Array Value} {s : State} {ra : Nat → Nat} (h : mzLs C n ds ra A s s.heap) : (Cond.laysStatic C n ds).before args s = true := by
  obtain ⟨cf, kf, fi, f, a, cell, h1, h2, h3, h4, h5, h6, h7, h8, h9, -⟩ := h
  simp [Cond.before, Cond.holds, Cond.value, h1, h2, h3, h4, h5, h6, h7, h8, h9]
def mzLU : Cond := .laysStatic "java/lang/Throwable" "UNASSIGNED_STACK" "[Ljava/lang/StackTraceElement;"
def mzLS : Cond := .laysStatic "java/lang/Throwable" "SUPPRESSED_SENTINEL" "Ljava/util/List;"
theorem mz_decl {x : MethodName} {b : ByteArray} {m : Nat} {ret : Option FieldType} {args : Array Value} {s : State} (hi : (Cond.instanceMethod x).before args s = true) (hc : (Cond.code x b m ret).before args s = true) : (Cond.declares x).before args s = true := by
  obtain ⟨r0, r, hn, hrm, hst, -⟩ := Cond.instanceMethod_spec hi
  obtain ⟨r', c0, hrm', -, -, -, -, -, -, hsig⟩ := Cond.code_spec hn hc
  cases hrm.symm.trans hrm'
  simp [Cond.before, Cond.holds, Cond.value, hn, hrm, hst, hsig]
def mzDW : List (MethodName × ByteArray) := [(Bundle.initS "java/lang/RuntimeException", prog_19_method_2_code), (Bundle.initS "java/lang/Exception", prog_16_method_2_code), (Bundle.initS "java/lang/Throwable", prog_23_method_2_code)]
theorem mzDW_ok : ∀ x ∈ mzDW, Cond.instanceMethod x.1 ∈ mzAll ∧ Cond.code x.1 x.2 2 none ∈ mzAll := by
  intro x hx
  have h : mzDW.all (fun x => decide (Cond.instanceMethod x.1 ∈ tables_1_4) && decide (Cond.code x.1 x.2 2 none ∈ tables_1_4)) = true := by decide +kernel
  have h1 := List.all_eq_true.mp h x hx
  simp only [Bool.and_eq_true, decide_eq_true_eq] at h1
  exact ⟨mz_t4 h1.1 rfl, mz_t4 h1.2 rfl⟩
def mzRU : Cond := .isRef (.static "java/lang/Throwable" "UNASSIGNED_STACK" "[Ljava/lang/StackTraceElement;")
def mzRS : Cond := .isRef (.static "java/lang/Throwable" "SUPPRESSED_SENTINEL" "Ljava/util/List;")
/-- the words that a throw of a fresh exception with a message reads; the first constructor's bytes and its call's number are free -/
def mzThr (own : String) (cc : Nat) (X : String) (ix : Nat) (by0 : ByteArray) (Y : String) (names : List String) : List Cond :=
  Bundle.throwableAtoms ++ (Bundle.throwableSAtoms ++ (Bundle.passSAtoms X Y ix by0 ++ (Bundle.chainSAtoms Y names ++
  [.methodLink own cc (Bundle.initS X), .instantiable X 6, .selects X Bundle.tFill0 Bundle.tFill0, .selects X Bundle.tFill Bundle.tFill, .lays X Bundle.tN "cause" "Ljava/lang/Throwable;", .lays X Bundle.tN "stackTrace" Bundle.steD, .lays X Bundle.tN "suppressedExceptions" Bundle.listD, .lays X Bundle.tN "detailMessage" "Ljava/lang/String;", .lays X Bundle.tN "backtrace" "Ljava/lang/Object;", .fieldLink Bundle.tN 198 Bundle.tN "backtrace" "Ljava/lang/Object;", .lays Bundle.tN Bundle.tN "backtrace" "Ljava/lang/Object;", mzRU, mzRS])))
def mzThrOk (own : String) (cc : Nat) (X : String) (ix : Nat) (by0 : ByteArray) (Y : String) (names : List String) : Prop := decode by0 0 = .ok (.aload_n 0, 1) ∧ decode by0 1 = .ok (.aload_n 1, 1) ∧ decode by0 2 = .ok (.invokespecial ix, 3) ∧ decode by0 5 = .ok (.return_, 1) ∧ ∀ w ∈ mzThr own cc X ix by0 Y names, w ∈ mzAll ∨ w = mzRU ∨ w = mzRS ∨ w = mzLU ∨ w = mzLS ∨ ∃ x ∈ mzDW, w = .declares x.1
set_option maxHeartbeats 4000000 in
theorem mz_ctorThrow {p : Program} {l : Launch} {e : Env} {R : Room} {s : State} {m₀ : MethodId} {args : Array Value} {below : List Frame} {meth : Method} {c : Code} {W : State} {cells slots : Nat}
    (X : Stand p l e R s m₀ args below meth c W [] cells slots) (hexec : p.tables.exec = Jvm.exec) (htr : e.platform.stackTraces = false) {own cls Y : String} {names : List String} {ic ix : Nat} {by0 : ByteArray} (hown : s.vm.findClass own = some m₀.cls) (hcls : Bundle.fit cls = true) (hY : Bundle.fit Y = true) (hnames : ∀ n ∈ names, Bundle.fit n = true)
    (hb0 : decode by0 0 = .ok (.aload_n 0, 1)) (hb1 : decode by0 1 = .ok (.aload_n 1, 1)) (hb2 : decode by0 2 = .ok (.invokespecial ix, 3)) (hb5 : decode by0 5 = .ok (.return_, 1)) (h : ∀ w ∈ mzThr own ic cls ix by0 Y names, w.before args s = true)
    {a : Addr} {cX : ClassId} {kX : Class} (hfoundX : s.vm.findClass cls = some cX) (hkX : s.vm.classes[cX]? = some kX) (hcell : W.heap[a]? = some (freshCell cX kX)) (hnew : s.heap.size ≤ a) {msg : Value} (hmsg : msg.isRef = true)
    {g : JFrame} (hg : g.method = m₀) (hsize : g.locals.size = c.maxLocals) (hlocked : g.locked = none) (hentered : g.entered = []) {rest : List Value} (hstack : g.stack = msg :: .ref a :: .ref a :: rest)
    (hd6 : decode c.code g.pc = .ok (.invokespecial ic, 3)) (hd9 : decode c.code (g.pc + 3) = .ok (.athrow, 1)) (hout : ∀ x ∈ c.exceptionTable.toList, covers x (g.pc + 3) = false)
    (hfr : names.length + 4 < R.frames) (hlo : 2 * g.monitorRoom + ((Value.ref a :: rest).map fun v => v.category).sum + (13 * (names.length + 2) + 42) ≤ R.locals) (hlocks : meth.locks = false) :
    ∃ U : State, Steps p.tables e below (W.setTop g) U ∧ U.status = .running ∧ Ended U below (.threw a) ∧ s.WarmedH U.vm ∧ s.sameButNew ({ U with vm := s.vm } : State) [] cells slots ∧ ∃ ce, U.heap[a]? = some ce ∧ ce.vm = .none ∧ ce.cls = cX := by
  have howns : e.platform.frameOwnsMonitors = true := by rw [X.admits.platform]
  have hfin : e.platform.finalization = false := by rw [X.admits.platform]
  have hpl : e.platform.magicAccessors = ({} : Platform).magicAccessors := by rw [X.admits.platform]
  have last : ∀ w, w ∈ [.methodLink own ic (Bundle.initS cls), .instantiable cls 6, .selects cls Bundle.tFill0 Bundle.tFill0, .selects cls Bundle.tFill Bundle.tFill, .lays cls Bundle.tN "cause" "Ljava/lang/Throwable;", .lays cls Bundle.tN "stackTrace" Bundle.steD, .lays cls Bundle.tN "suppressedExceptions" Bundle.listD, .lays cls Bundle.tN "detailMessage" "Ljava/lang/String;", .lays cls Bundle.tN "backtrace" "Ljava/lang/Object;", .fieldLink Bundle.tN 198 Bundle.tN "backtrace" "Ljava/lang/Object;", .lays Bundle.tN Bundle.tN "backtrace" "Ljava/lang/Object;", mzRU, mzRS] → w.before args s = true :=
    fun w hw => h w (List.mem_append_right _ (List.mem_append_right _ (List.mem_append_right _ (List.mem_append_right _ hw))))
  have pass : ∀ w ∈ Bundle.passSAtoms cls Y ix by0, w.before args s = true := fun w hw => h w (List.mem_append_right _ (List.mem_append_right _ (List.mem_append_left _ hw)))
  obtain ⟨T, Z0, L, -, Y0⟩ := ThrowableC.of_atoms (args := args) howns hfin hpl (fun x hx => h x (List.mem_append_left _ hx))
  obtain ⟨Z, Mc, LZ, LM, hnZ⟩ := Init0T.ofS_atoms (args := args) hpl L Y0 (fun x hx => h x (List.mem_append_right _ (List.mem_append_left _ hx)))
  obtain ⟨P2, Ps, hlen, L2, hL, hP2m, hlink1, hlink⟩ := Bundle.chainS (args := args) hpl hnZ names Y hY hnames (fun x hx => h x (List.mem_append_right _ (List.mem_append_right _ (List.mem_append_right _ (List.mem_append_left _ hx)))))
  obtain ⟨P1, L1, hP1m, hP1s⟩ := PassC.ofS_atoms (args := args) (s := s) hpl (X := cls) (Y := Y) (Bundle.fit_spec hcls).1 (Bundle.fit_spec hY).2 hb0 hb1 hb2 hb5 pass
  have hsup : P1.sup = P2.m := Option.some.inj (hP1s.symm.trans hP2m)
  have hfound : s.vm.findClass cls = some P1.m.cls := findClass_of_methodNamed hP1m
  cases Option.some.inj (hfoundX.symm.trans hfound)
  obtain ⟨c1, kX', hc1, hk, hord, -, -, hn6⟩ := Cond.instantiable_spec (last (.instantiable cls 6) (by simp))
  cases Option.some.inj (hc1.symm.trans hfound)
  cases Option.some.inj (hkX.symm.trans hk)
  have hsel : ∀ y : MethodName, ∀ tm, s.methodNamed? y = some tm → y.cls = Bundle.tN → (Cond.selects cls y y).before args s = true → selectMethod e.platform s.vm P1.m.cls tm = .method tm := by
    intro y tm hy hyc hw
    obtain ⟨c2, r2, m2, q1, q2, q3, q4, -⟩ := Cond.selects_spec hw
    cases Option.some.inj (q1.symm.trans hfound)
    cases Option.some.inj (q2.symm.trans (State.methodFound?_of_named hy (by rw [hyc]; decide)))
    cases Option.some.inj (q3.symm.trans hy)
    rw [Launch.admits_selectMethod X.admits]; exact q4
  have hsel0 := hsel Bundle.tFill0 T.fill0 Y0.fill0 rfl (last _ (by simp))
  have hselF := hsel Bundle.tFill T.fill Y0.fill rfl (last _ (by simp))
  obtain ⟨cellS0, hcS0, hiss⟩ := Y0.statics
  obtain ⟨u0, hu0⟩ := Cond.staticRefV Y0.unassigned L.unassignedStatic L.statics hcS0 hiss (last mzRU (by simp))
  obtain ⟨sen, hsen⟩ := Cond.staticRefV Y0.sentinel L.sentinelStatic L.statics hcS0 hiss (last mzRS (by simp))
  obtain ⟨ci198, i198, fB, hk198, hg198, ha198, hsB, -, hnB, htB, hffB⟩ := Cond.ownField (t := .object "java/lang/Object") Y0.found L.cls (by decide +kernel) (last (.fieldLink Bundle.tN 198 Bundle.tN "backtrace" "Ljava/lang/Object;") (by simp)) (last (.lays Bundle.tN Bundle.tN "backtrace" "Ljava/lang/Object;") (by simp)) e.platform hpl
  obtain ⟨cellS, hcS', heS, -, hkeep⟩ := X.same.2.2.2.2.2 T.aS cellS0 hcS0
  have hcellS : W.heap[T.aS]? = some cellS := hcS'
  have hkeep' : ∀ i, cellS.slots[i]? = cellS0.slots[i]? := fun i => hkeep i (by simp)
  have hknownS : cellS.vm ≠ .unknown := by
    intro hu
    rw [heS] at hu
    rw [show cellS0.vm = .unknown from hu] at hiss
    cases hiss
  have hneS : T.aS ≠ a := Nat.ne_of_lt (Nat.lt_of_lt_of_le (Array.getElem?_eq_some_iff.mp hcS0).1 hnew)
  obtain ⟨iM, hffM⟩ := Y0.msg
  obtain ⟨tyC, dC, hdC, hdnC⟩ := Cond.laysAt hfound hk Y0.cause (last (.lays cls Bundle.tN "cause" "Ljava/lang/Throwable;") (by simp))
  obtain ⟨tyS, dS, hdS, hdnS⟩ := Cond.laysAt hfound hk Y0.stack (last (.lays cls Bundle.tN "stackTrace" Bundle.steD) (by simp))
  obtain ⟨tyP, dP, hdP, hdnP⟩ := Cond.laysAt hfound hk Y0.supp (last (.lays cls Bundle.tN "suppressedExceptions" Bundle.listD) (by simp))
  obtain ⟨tyM, dM, hdM, hdnM⟩ := Cond.laysAt hfound hk hffM (last (.lays cls Bundle.tN "detailMessage" "Ljava/lang/String;") (by simp))
  obtain ⟨tyB, dB, hdB, hdnB⟩ := Cond.laysAt hfound hk hffB (last (.lays cls Bundle.tN "backtrace" "Ljava/lang/Object;") (by simp))
  have bC := Cond.laysApart hdB hdC hdnB hdnC (by rw [hnB, Y0.causeName]; decide)
  have bS := Cond.laysApart hdB hdS hdnB hdnS (by rw [hnB, Y0.stackName]; decide)
  have bP := Cond.laysApart hdB hdP hdnB hdnP (by rw [hnB, Y0.suppName]; decide)
  have hskip : SkipFacts T e.platform s (fun u => u) u0 ((preparedCellV T.toThrowableT (freshCell P1.m.cls kX) a u0 sen).withEntry W.cur) :=
    ⟨{ ci198 := ci198, i198 := i198, fBack := fB }, ⟨hk198, hg198, ha198, hsB⟩, by
      have hz := fresh_default (c := P1.m.cls) tyB
      rw [htB] at hz
      simpa [preparedCellV, Cell.setSlot, Cell.withEntry, Array.getElem?_setIfInBounds, bC, bS, bP, bC.symm, bS.symm, bP.symm, defaultValue] using hz, fun _ _ => rfl⟩
  obtain ⟨tm, methC, cdC, kC, vm₁, hnC, -, -, -, -, -, -, -, hW₁, st1⟩ := Steps.initColdS (tb := p.tables) (e := e) (below := below) (s := s) (U := W) X.here hexec X.warmed hpl hown (t := Bundle.initS cls) rfl rfl (Bundle.fit_spec hcls).2 (last (.methodLink own ic (Bundle.initS cls)) (by simp)) (pass (.instanceMethod (Bundle.initS cls)) (by simp [Bundle.passSAtoms])) (bytes := by0) (maxL := 2) (pass (.code (Bundle.initS cls) by0 2 none) (by simp [Bundle.passSAtoms])) (f := g) hg (a := a) (msg := msg) (rest := .ref a :: rest) hstack hd6
  cases Option.some.inj (hnC.symm.trans hP1m)
  obtain ⟨vm₂, X₂, st2⟩ := (X.noted hW₁).ctorMessageOffV hexec (g := { g with stack := .ref a :: rest }) hg hsize T L Z LZ Mc LM (P1 :: P2 :: Ps)
    (fun P hP => by
      rcases List.mem_cons.mp hP with rfl | hP
      · exact L1
      · rcases List.mem_cons.mp hP with rfl | hP
        · exact L2
        · exact hL P hP) ⟨hsup, hlink1, hlink⟩ (u0 := u0) (sen := sen) (self := a) hmsg (cell := freshCell P1.m.cls kX) (cellS := cellS)
    hcell (fun _ => by simp) (by simp) rfl rfl hsel0 hselF hcellS hneS hknownS (by rw [hkeep']; exact hu0) (by rw [hkeep']; exact hsen)
    (Takes.of_laid hk hord tyC (by rw [Y0.causeType]; rfl)) (Takes.of_laid hk hord tyS (by rw [Y0.stackType]; exact fits_refV_array _ u0)) (Takes.of_laid hk hord tyP (by rw [Y0.suppType]; exact fits_refV_object _ sen))
    (Takes.of_laid hk hord tyM (by rw [Y0.msgType]; exact fits_refV_object _ ⟨msg, hmsg⟩)) Y0.objLocals hskip htr [] hd6
    (by simp only [List.length_cons, hlen]; omega) (by simp only [List.length_cons, hlen]; exact hlo)
  obtain ⟨hwalk, hrun, hended, hWU, hsame⟩ := X₂.athrowLeaves hexec (g := { g with stack := .ref a :: rest, pc := g.pc + 3 }) hg hlocked hentered hout (a := a) (rest := rest) rfl hd9
  have hlt : a < ((W.setVm vm₁).setVm vm₂).heap.size := (Array.getElem?_eq_some_iff.mp hcell).1
  have hU := heapAt_setCell_self (s := (W.setVm vm₁).setVm vm₂) (plainBareV T.toThrowableT (freshCell P1.m.cls kX) a u0 sen msg) hlt
  refine ⟨_, st1 _ (fun acts => ?_), hrun, hended, hWU, hsame.weaken (fun y hy hlt' => ?_) (Nat.le_refl _) (Nat.le_refl _), _, hU, rfl, rfl⟩
  · rw [doInvoke_state]
    exact st2 _ hwalk
  · exfalso
    rw [List.nil_append] at hy
    have hb : y.base = a := by
      simp only [List.mem_cons, List.not_mem_nil, or_false] at hy
      rcases hy with rfl | rfl | rfl | rfl | rfl <;> rfl
    rw [hb] at hlt'
    exact Nat.not_lt.mpr hnew hlt'
set_option maxHeartbeats 4000000 in
theorem mj_throw {G : MzG} {B : MzB} {d : Nat} {mm : MzT} {M : MzM} {bu : Nat × Nat} {pc : Nat} {lv : List (Nat × Value)} {Q : MzR → MzB → MzM → Prop} {X Y : String} {names : List String} {ic ks cc q ix : Nat} {by0 : ByteArray} {tx : String} (hd0 : decode mm.2.1 pc = .ok (.new ic, 3)) (hd3 : decode mm.2.1 (pc + 3) = .ok (.dup, 1)) (hd4 : decode mm.2.1 (pc + 4) = .ok (.ldc ks, 2)) (hd6 : decode mm.2.1 (pc + 6) = .ok (.invokespecial cc, 3)) (hd9 : decode mm.2.1 (pc + 9) = .ok (.athrow, 1))
    (hz : ∀ (A : Nat → Prop) (s : State), mz_ro mzRo G A s s.heap → vk_R mm.1.cls ks tx q s) (hcl : Cond.classLink mm.1.cls ic X ∈ mzAll) (hins : Cond.instantiable X 6 ∈ mzAll) (hini : Cond.initialized X ∈ mzAll) (hfit : Bundle.fit X = true) (hfY : Bundle.fit Y = true) (hnm : ∀ n ∈ names, Bundle.fit n = true) (hat : mzThrOk mm.1.cls cc X ix by0 Y names) (hn2 : names.length = 1) (hd6' : 6 ≤ d) (hb1 : 1 ≤ bu.1) (hb2 : 6 ≤ bu.2) (h : Q (.inr X) B M) : MzJ (mzGP G Q) G B d mm M bu pc lv [] := by
  intro p l e mc ms s m args below meth c A cells slots ls hg hex hX hl hI c1 c2
  have hg : l.stackTraces = false := hg
  have hlocks : meth.locks = false := hX.2.2.2.2.2.2.1
  refine W.newc (g := F0 m pc ls []) hX.1 hX.2.1 hX.2.2.2.2.2.1 (hX.2.2.2.2.1 _ (List.mem_cons_of_mem _ hcl)) (hX.2.2.2.2.1 _ (List.mem_cons_of_mem _ hins)) (hX.2.2.2.2.1 _ (List.mem_cons_of_mem _ hini)) rfl hd0 (show cells + 1 ≤ mc by omega) (show slots + 6 ≤ ms by omega) ?_
  intro cC kC f1 f2 f3 f4
  refine lv_dup (pc := pc + 3) (ls := ls) hX.1 hX.2.1 hd3 rfl ?_
  refine va_ldcS hX.1 hX.2.1 hX.2.2.2.2.2.1 (hz A s hI.2.2.2.2.2) hd4 ?_
  intro T hT XS
  obtain ⟨o0, o1, o2, o5, hat⟩ := hat
  have hatoms : ∀ w ∈ mzThr mm.1.cls cc X ix by0 Y names, w.before args s = true := by
    intro w hw
    rcases hat w hw with hw | rfl | rfl | rfl | rfl | ⟨x, hx, rfl⟩
    · exact hX.2.2.2.2.1 _ (List.mem_cons_of_mem _ hw)
    · exact mz_isRef (mz_u hI.2.2.2.2.2 (mz_fixIn 7 rfl))
    · exact mz_isRef (mz_u hI.2.2.2.2.2 (mz_fixIn 8 rfl))
    · exact mz_lays (mz_u hI.2.2.2.2.2 (mz_fixIn 10 rfl))
    · exact mz_lays (mz_u hI.2.2.2.2.2 (mz_fixIn 11 rfl))
    · exact mz_decl (hX.2.2.2.2.1 _ (List.mem_cons_of_mem _ (mzDW_ok x hx).1)) (hX.2.2.2.2.1 _ (List.mem_cons_of_mem _ (mzDW_ok x hx).2))
  have hcell : T.heap[s.heap.size]? = some (freshCell cC kC) := by rw [hT]; simp
  obtain ⟨U, hsteps, hrun, hend, hW, hsame, ce, hce, hvm0, hcls0⟩ := mz_ctorThrow XS hX.1 (by rw [XS.admits.platform]; exact hg) hX.2.2.2.2.2.1 hfit hfY hnm o0 o1 o2 o5 hatoms f1 f2 hcell (Nat.le_refl _) (msg := .ref q) rfl (g := F0 m (pc + 3 + 1 + 2) ls [.ref q, .ref s.heap.size, .ref s.heap.size]) rfl (by rw [hX.2.2.1]; exact hl.1) rfl rfl (rest := []) rfl (by rw [hX.2.1]; exact hd6) (by rw [hX.2.1]; exact hd9) (fun x hx => by
      rw [Array.isEmpty_iff.mp hex] at hx
      cases hx) (show names.length + 4 < d by omega) (show 2 * 0 + 1 + (13 * (names.length + 2) + 42) ≤ 46 * d by omega) hlocks
  have hsame' : s.sameButNew ({ U with vm := s.vm } : State) [] mc ms := hsame.mono (by omega) (by omega)
  have hkeep : ∀ q : Nat, q < s.heap.size → U.heap[q]? = s.heap[q]? := mz_same0 (t := ({ U with vm := s.vm } : State)) hsame'
  refine ⟨U, hsteps, .threw s.heap.size, hrun, hend, ⟨⟨.inr X, B, M, h, ⟨s.heap.size, rfl, ce, hce, by rw [hvm0]; rfl, by rw [hW.alike.findClass, hcls0]; exact f1, hI.2.2.2.2.1 _ (Nat.le_refl _)⟩, hI.2.1.kept (fun k q hq => hkeep _ (hI.2.1 k q hq).lt), va_K.moved hW.alike hI.1, hI.2.2.1⟩, hsame'.2.1, fun q hq _ => hkeep q hq⟩, Or.inr ⟨_, rfl, hW, hsame'⟩⟩
def mzThrC (ws : List Cond) : Bool := ws.all fun w => (goodWord w && (decide (w ∈ tables_1_4) || decide (w ∈ tables_1_1) || decide (w ∈ tables_1_7) || decide (w ∈ tables_1_2) || decide (w ∈ tables_1_3) || decide (w ∈ tables_1_5) || decide (w ∈ tables_1_6))) || decide (w = mzRU) || decide (w = mzRS) || decide (w = mzLU) || decide (w = mzLS) || mzDW.any (fun x => decide (w = .declares x.1))
theorem mzThrC_ok {ws : List Cond} (h : mzThrC ws = true) : ∀ w ∈ ws, w ∈ mzAll ∨ w = mzRU ∨ w = mzRS ∨ w = mzLU ∨ w = mzLS ∨ ∃ x ∈ mzDW, w = .declares x.1 := by
  intro w hw
  have h1 := List.all_eq_true.mp h w hw
  simp only [Bool.or_eq_true, Bool.and_eq_true, decide_eq_true_eq, List.any_eq_true] at h1
  rcases h1 with ((((⟨g, h1⟩ | h1) | h1) | h1) | h1) | h1
  · left
    rcases h1 with (((((h1 | h1) | h1) | h1) | h1) | h1) | h1
    · exact mz_t4 h1 g
    · exact mz_t1 h1 g
    · exact mz_t7 h1 g
    · exact mz_t2 h1 g
    · exact mz_t3 h1 g
    · exact mz_t5 h1 g
    · exact mz_t6 h1 g
  · exact Or.inr (Or.inl h1)
  · exact Or.inr (Or.inr (Or.inl h1))
  · exact Or.inr (Or.inr (Or.inr (Or.inl h1)))
  · exact Or.inr (Or.inr (Or.inr (Or.inr (Or.inl h1))))
  · exact Or.inr (Or.inr (Or.inr (Or.inr (Or.inr h1))))
theorem wn_IllegalArgumentException : Jvm.Cond.initialized "java/lang/IllegalArgumentException" ∈ mzAll := mz_t1 (List.mem_of_getElem? (i := 22) (by decide +kernel)) (by decide +kernel)
theorem wb_IllegalArgumentException : Jvm.Cond.instantiable "java/lang/IllegalArgumentException" (6 : Nat) ∈ mzAll := mz_t4 (List.mem_of_getElem? (i := 71) (by decide +kernel)) (by decide +kernel)
theorem thr_IllegalArgumentException : mzThrOk "ParcelLine" 53 "java/lang/IllegalArgumentException" 7 prog_17_method_2_code "java/lang/RuntimeException" ["java/lang/Exception"] := ⟨by decide +kernel, by decide +kernel, by decide +kernel, by decide +kernel, mzThrC_ok (by decide +kernel)⟩
theorem wn_IllegalStateException : Jvm.Cond.initialized "java/lang/IllegalStateException" ∈ mzAll := mz_t1 (List.mem_of_getElem? (i := 23) (by decide +kernel)) (by decide +kernel)
theorem wb_IllegalStateException : Jvm.Cond.instantiable "java/lang/IllegalStateException" (6 : Nat) ∈ mzAll := mz_t4 (List.mem_of_getElem? (i := 138) (by decide +kernel)) (by decide +kernel)
theorem thr_IllegalStateException : mzThrOk "ParcelLine" 70 "java/lang/IllegalStateException" 7 prog_18_method_2_code "java/lang/RuntimeException" ["java/lang/Exception"] := ⟨by decide +kernel, by decide +kernel, by decide +kernel, by decide +kernel, mzThrC_ok (by decide +kernel)⟩
theorem wn_NoSuchElementException : Jvm.Cond.initialized "java/util/NoSuchElementException" ∈ mzAll := mz_t1 (List.mem_of_getElem? (i := 24) (by decide +kernel)) (by decide +kernel)
theorem wb_NoSuchElementException : Jvm.Cond.instantiable "java/util/NoSuchElementException" (6 : Nat) ∈ mzAll := mz_t4 (List.mem_of_getElem? (i := 178) (by decide +kernel)) (by decide +kernel)
theorem thr_NoSuchElementException : mzThrOk "ParcelLine" 87 "java/util/NoSuchElementException" 13 prog_24_method_4_code "java/lang/RuntimeException" ["java/lang/Exception"] := ⟨by decide +kernel, by decide +kernel, by decide +kernel, by decide +kernel, mzThrC_ok (by decide +kernel)⟩
def mm_PL_isSession : MzT := (⟨"ParcelLine", "isSession", "(I)Z"⟩, prog_1_method_18_code, 1, (Option.some Jvm.ClassFile.FieldType.boolean))
theorem cs_PL_isSession {mm : MzT} : mzCall mm mm_PL_isSession 1 := ⟨wn_PL, wco_PL_isSession, by decide +kernel, by decide⟩
theorem d_PL_isSession_0 : decode mm_PL_isSession.2.1 0 = .ok (.iload_n 0, 1) := by decide +kernel
theorem d_PL_isSession_1 : decode mm_PL_isSession.2.1 1 = .ok (.ifCond .lt 12, 3) := by decide +kernel
theorem d_PL_isSession_4 : decode mm_PL_isSession.2.1 4 = .ok (.iload_n 0, 1) := by decide +kernel
theorem d_PL_isSession_5 : decode mm_PL_isSession.2.1 5 = .ok (.iconst 2, 1) := by decide +kernel
theorem d_PL_isSession_6 : decode mm_PL_isSession.2.1 6 = .ok (.if_icmp .ge 7, 3) := by decide +kernel
theorem d_PL_isSession_9 : decode mm_PL_isSession.2.1 9 = .ok (.iconst 1, 1) := by decide +kernel
theorem d_PL_isSession_10 : decode mm_PL_isSession.2.1 10 = .ok (.goto 4, 3) := by decide +kernel
theorem d_PL_isSession_13 : decode mm_PL_isSession.2.1 13 = .ok (.iconst 0, 1) := by decide +kernel
theorem d_PL_isSession_14 : decode mm_PL_isSession.2.1 14 = .ok (.ireturn, 1) := by decide +kernel
def wz_PL_isSession (a0 : Int32) (K : Int32 → Prop) : Prop := ((a0 < 0 → K (0 : Int32)) ∧ (¬ a0 < 0 → (((2 : Int32) ≤ a0 → K (0 : Int32)) ∧ (¬ (2 : Int32) ≤ a0 → K (1 : Int32)))))
theorem tz_PL_isSession {G : MzG} {B : MzB} {d : Nat} {K : Int32 → Prop} {a0 : Int32} {M : MzM} (h : wz_PL_isSession a0 K) : MzCp G B d mm_PL_isSession [.int a0] M K := by
  unfold wz_PL_isSession at h
  exact MzCp.of rfl (Nat.le_of_ble_eq_true rfl) (show MzJ (mzGZ K) G B d mm_PL_isSession M (0, 0) 0 [(0, .int a0)] [] from (mj_iload_n d_PL_isSession_0 rfl (mj_if_lt 13 d_PL_isSession_1 rfl (fun hc2 => (mj_iconst (0 : Int32) d_PL_isSession_13 (by decide) (mj_iretZ .boolean d_PL_isSession_14 rfl rfl (h.1 hc2)))) (fun hc2 => (mj_iload_n d_PL_isSession_4 rfl (mj_iconst (2 : Int32) d_PL_isSession_5 (by decide) (mj_icmp_ge 13 d_PL_isSession_6 rfl (fun hc1 => (mj_iconst (0 : Int32) d_PL_isSession_13 (by decide) (mj_iretZ .boolean d_PL_isSession_14 rfl rfl ((h.2 hc2).1 hc1)))) (fun hc1 => (mj_iconst (1 : Int32) d_PL_isSession_9 (by decide) (mj_goto 14 d_PL_isSession_10 rfl (mj_iretZ .boolean d_PL_isSession_14 rfl rfl ((h.2 hc2).2 hc1))))))))))))
def mm_PL_isShelf : MzT := (⟨"ParcelLine", "isShelf", "(I)Z"⟩, prog_1_method_19_code, 1, (Option.some Jvm.ClassFile.FieldType.boolean))
theorem cs_PL_isShelf {mm : MzT} : mzCall mm mm_PL_isShelf 1 := ⟨wn_PL, wco_PL_isShelf, by decide +kernel, by decide⟩
theorem d_PL_isShelf_0 : decode mm_PL_isShelf.2.1 0 = .ok (.iload_n 0, 1) := by decide +kernel
theorem d_PL_isShelf_1 : decode mm_PL_isShelf.2.1 1 = .ok (.ifCond .lt 12, 3) := by decide +kernel
theorem d_PL_isShelf_4 : decode mm_PL_isShelf.2.1 4 = .ok (.iload_n 0, 1) := by decide +kernel
theorem d_PL_isShelf_5 : decode mm_PL_isShelf.2.1 5 = .ok (.iconst 3, 1) := by decide +kernel
theorem d_PL_isShelf_6 : decode mm_PL_isShelf.2.1 6 = .ok (.if_icmp .ge 7, 3) := by decide +kernel
theorem d_PL_isShelf_9 : decode mm_PL_isShelf.2.1 9 = .ok (.iconst 1, 1) := by decide +kernel
theorem d_PL_isShelf_10 : decode mm_PL_isShelf.2.1 10 = .ok (.goto 4, 3) := by decide +kernel
theorem d_PL_isShelf_13 : decode mm_PL_isShelf.2.1 13 = .ok (.iconst 0, 1) := by decide +kernel
theorem d_PL_isShelf_14 : decode mm_PL_isShelf.2.1 14 = .ok (.ireturn, 1) := by decide +kernel
def wz_PL_isShelf (a0 : Int32) (K : Int32 → Prop) : Prop := ((a0 < 0 → K (0 : Int32)) ∧ (¬ a0 < 0 → (((3 : Int32) ≤ a0 → K (0 : Int32)) ∧ (¬ (3 : Int32) ≤ a0 → K (1 : Int32)))))
theorem tz_PL_isShelf {G : MzG} {B : MzB} {d : Nat} {K : Int32 → Prop} {a0 : Int32} {M : MzM} (h : wz_PL_isShelf a0 K) : MzCp G B d mm_PL_isShelf [.int a0] M K := by
  unfold wz_PL_isShelf at h
  exact MzCp.of rfl (Nat.le_of_ble_eq_true rfl) (show MzJ (mzGZ K) G B d mm_PL_isShelf M (0, 0) 0 [(0, .int a0)] [] from (mj_iload_n d_PL_isShelf_0 rfl (mj_if_lt 13 d_PL_isShelf_1 rfl (fun hc2 => (mj_iconst (0 : Int32) d_PL_isShelf_13 (by decide) (mj_iretZ .boolean d_PL_isShelf_14 rfl rfl (h.1 hc2)))) (fun hc2 => (mj_iload_n d_PL_isShelf_4 rfl (mj_iconst (3 : Int32) d_PL_isShelf_5 (by decide) (mj_icmp_ge 13 d_PL_isShelf_6 rfl (fun hc1 => (mj_iconst (0 : Int32) d_PL_isShelf_13 (by decide) (mj_iretZ .boolean d_PL_isShelf_14 rfl rfl ((h.2 hc2).1 hc1)))) (fun hc1 => (mj_iconst (1 : Int32) d_PL_isShelf_9 (by decide) (mj_goto 14 d_PL_isShelf_10 rfl (mj_iretZ .boolean d_PL_isShelf_14 rfl rfl ((h.2 hc2).2 hc1))))))))))))
def mm_PL_isNameByte : MzT := (⟨"ParcelLine", "isNameByte", "(I)Z"⟩, prog_1_method_20_code, 1, (Option.some Jvm.ClassFile.FieldType.boolean))
theorem cs_PL_isNameByte {mm : MzT} : mzCall mm mm_PL_isNameByte 1 := ⟨wn_PL, wco_PL_isNameByte, by decide +kernel, by decide⟩
theorem d_PL_isNameByte_0 : decode mm_PL_isNameByte.2.1 0 = .ok (.iload_n 0, 1) := by decide +kernel
theorem d_PL_isNameByte_1 : decode mm_PL_isNameByte.2.1 1 = .ok (.bipush 97, 2) := by decide +kernel
theorem d_PL_isNameByte_3 : decode mm_PL_isNameByte.2.1 3 = .ok (.if_icmp .lt 9, 3) := by decide +kernel
theorem d_PL_isNameByte_6 : decode mm_PL_isNameByte.2.1 6 = .ok (.iload_n 0, 1) := by decide +kernel
theorem d_PL_isNameByte_7 : decode mm_PL_isNameByte.2.1 7 = .ok (.bipush 122, 2) := by decide +kernel
theorem d_PL_isNameByte_9 : decode mm_PL_isNameByte.2.1 9 = .ok (.if_icmp .le 15, 3) := by decide +kernel
theorem d_PL_isNameByte_12 : decode mm_PL_isNameByte.2.1 12 = .ok (.iload_n 0, 1) := by decide +kernel
theorem d_PL_isNameByte_13 : decode mm_PL_isNameByte.2.1 13 = .ok (.bipush 48, 2) := by decide +kernel
theorem d_PL_isNameByte_15 : decode mm_PL_isNameByte.2.1 15 = .ok (.if_icmp .lt 13, 3) := by decide +kernel
theorem d_PL_isNameByte_18 : decode mm_PL_isNameByte.2.1 18 = .ok (.iload_n 0, 1) := by decide +kernel
theorem d_PL_isNameByte_19 : decode mm_PL_isNameByte.2.1 19 = .ok (.bipush 57, 2) := by decide +kernel
theorem d_PL_isNameByte_21 : decode mm_PL_isNameByte.2.1 21 = .ok (.if_icmp .gt 7, 3) := by decide +kernel
theorem d_PL_isNameByte_24 : decode mm_PL_isNameByte.2.1 24 = .ok (.iconst 1, 1) := by decide +kernel
theorem d_PL_isNameByte_25 : decode mm_PL_isNameByte.2.1 25 = .ok (.goto 4, 3) := by decide +kernel
theorem d_PL_isNameByte_28 : decode mm_PL_isNameByte.2.1 28 = .ok (.iconst 0, 1) := by decide +kernel
theorem d_PL_isNameByte_29 : decode mm_PL_isNameByte.2.1 29 = .ok (.ireturn, 1) := by decide +kernel
def wz_PL_isNameByte (a0 : Int32) (K : Int32 → Prop) : Prop := ((a0 < (97 : Int32) → ((a0 < (48 : Int32) → K (0 : Int32)) ∧ (¬ a0 < (48 : Int32) → (((57 : Int32) < a0 → K (0 : Int32)) ∧ (¬ (57 : Int32) < a0 → K (1 : Int32)))))) ∧ (¬ a0 < (97 : Int32) → ((a0 ≤ (122 : Int32) → K (1 : Int32)) ∧ (¬ a0 ≤ (122 : Int32) → ((a0 < (48 : Int32) → K (0 : Int32)) ∧ (¬ a0 < (48 : Int32) → (((57 : Int32) < a0 → K (0 : Int32)) ∧ (¬ (57 : Int32) < a0 → K (1 : Int32)))))))))
theorem tz_PL_isNameByte {G : MzG} {B : MzB} {d : Nat} {K : Int32 → Prop} {a0 : Int32} {M : MzM} (h : wz_PL_isNameByte a0 K) : MzCp G B d mm_PL_isNameByte [.int a0] M K := by
  unfold wz_PL_isNameByte at h
  exact MzCp.of rfl (Nat.le_of_ble_eq_true rfl) (show MzJ (mzGZ K) G B d mm_PL_isNameByte M (0, 0) 0 [(0, .int a0)] [] from (mj_iload_n d_PL_isNameByte_0 rfl (mj_bipush (97 : Int32) d_PL_isNameByte_1 (by decide) (mj_icmp_lt 12 d_PL_isNameByte_3 rfl (fun hc6 => (mj_iload_n d_PL_isNameByte_12 rfl (mj_bipush (48 : Int32) d_PL_isNameByte_13 (by decide) (mj_icmp_lt 28 d_PL_isNameByte_15 rfl (fun hc2 => (mj_iconst (0 : Int32) d_PL_isNameByte_28 (by decide) (mj_iretZ .boolean d_PL_isNameByte_29 rfl rfl ((h.1 hc6).1 hc2)))) (fun hc2 => (mj_iload_n d_PL_isNameByte_18 rfl (mj_bipush (57 : Int32) d_PL_isNameByte_19 (by decide) (mj_icmp_gt 28 d_PL_isNameByte_21 rfl (fun hc1 => (mj_iconst (0 : Int32) d_PL_isNameByte_28 (by decide) (mj_iretZ .boolean d_PL_isNameByte_29 rfl rfl (((h.1 hc6).2 hc2).1 hc1)))) (fun hc1 => (mj_iconst (1 : Int32) d_PL_isNameByte_24 (by decide) (mj_goto 29 d_PL_isNameByte_25 rfl (mj_iretZ .boolean d_PL_isNameByte_29 rfl rfl (((h.1 hc6).2 hc2).2 hc1))))))))))))) (fun hc6 => (mj_iload_n d_PL_isNameByte_6 rfl (mj_bipush (122 : Int32) d_PL_isNameByte_7 (by decide) (mj_icmp_le 24 d_PL_isNameByte_9 rfl (fun hc5 => (mj_iconst (1 : Int32) d_PL_isNameByte_24 (by decide) (mj_goto 29 d_PL_isNameByte_25 rfl (mj_iretZ .boolean d_PL_isNameByte_29 rfl rfl ((h.2 hc6).1 hc5))))) (fun hc5 => (mj_iload_n d_PL_isNameByte_12 rfl (mj_bipush (48 : Int32) d_PL_isNameByte_13 (by decide) (mj_icmp_lt 28 d_PL_isNameByte_15 rfl (fun hc4 => (mj_iconst (0 : Int32) d_PL_isNameByte_28 (by decide) (mj_iretZ .boolean d_PL_isNameByte_29 rfl rfl (((h.2 hc6).2 hc5).1 hc4)))) (fun hc4 => (mj_iload_n d_PL_isNameByte_18 rfl (mj_bipush (57 : Int32) d_PL_isNameByte_19 (by decide) (mj_icmp_gt 28 d_PL_isNameByte_21 rfl (fun hc3 => (mj_iconst (0 : Int32) d_PL_isNameByte_28 (by decide) (mj_iretZ .boolean d_PL_isNameByte_29 rfl rfl ((((h.2 hc6).2 hc5).2 hc4).1 hc3)))) (fun hc3 => (mj_iconst (1 : Int32) d_PL_isNameByte_24 (by decide) (mj_goto 29 d_PL_isNameByte_25 rfl (mj_iretZ .boolean d_PL_isNameByte_29 rfl rfl ((((h.2 hc6).2 hc5).2 hc4).2 hc3)))))))))))))))))))))
def mm_PL_isName : MzT := (⟨"ParcelLine", "isName", "(I)Z"⟩, prog_1_method_21_code, 3, (Option.some Jvm.ClassFile.FieldType.boolean))
theorem cs_PL_isName {mm : MzT} : mzCall mm mm_PL_isName 1 := ⟨wn_PL, wco_PL_isName, by decide +kernel, by decide⟩
theorem d_PL_isName_0 : decode mm_PL_isName.2.1 0 = .ok (.iload_n 0, 1) := by decide +kernel
theorem d_PL_isName_1 : decode mm_PL_isName.2.1 1 = .ok (.istore_n 1, 1) := by decide +kernel
theorem d_PL_isName_2 : decode mm_PL_isName.2.1 2 = .ok (.iconst 0, 1) := by decide +kernel
theorem d_PL_isName_3 : decode mm_PL_isName.2.1 3 = .ok (.istore_n 2, 1) := by decide +kernel
theorem d_PL_isName_4 : decode mm_PL_isName.2.1 4 = .ok (.iload_n 2, 1) := by decide +kernel
theorem d_PL_isName_5 : decode mm_PL_isName.2.1 5 = .ok (.iconst 3, 1) := by decide +kernel
theorem d_PL_isName_6 : decode mm_PL_isName.2.1 6 = .ok (.if_icmp .ge 32, 3) := by decide +kernel
theorem d_PL_isName_9 : decode mm_PL_isName.2.1 9 = .ok (.iload_n 1, 1) := by decide +kernel
theorem d_PL_isName_10 : decode mm_PL_isName.2.1 10 = .ok (.ifCond .le 28, 3) := by decide +kernel
theorem d_PL_isName_13 : decode mm_PL_isName.2.1 13 = .ok (.iload_n 1, 1) := by decide +kernel
theorem d_PL_isName_14 : decode mm_PL_isName.2.1 14 = .ok (.sipush 128, 3) := by decide +kernel
theorem d_PL_isName_17 : decode mm_PL_isName.2.1 17 = .ok (.irem, 1) := by decide +kernel
theorem d_PL_isName_18 : decode mm_PL_isName.2.1 18 = .ok (.invokestatic 206, 3) := by decide +kernel
theorem d_PL_isName_21 : decode mm_PL_isName.2.1 21 = .ok (.ifCond .ne 5, 3) := by decide +kernel
theorem d_PL_isName_24 : decode mm_PL_isName.2.1 24 = .ok (.iconst 0, 1) := by decide +kernel
theorem d_PL_isName_25 : decode mm_PL_isName.2.1 25 = .ok (.ireturn, 1) := by decide +kernel
theorem d_PL_isName_26 : decode mm_PL_isName.2.1 26 = .ok (.iload_n 1, 1) := by decide +kernel
theorem d_PL_isName_27 : decode mm_PL_isName.2.1 27 = .ok (.sipush 128, 3) := by decide +kernel
theorem d_PL_isName_30 : decode mm_PL_isName.2.1 30 = .ok (.idiv, 1) := by decide +kernel
theorem d_PL_isName_31 : decode mm_PL_isName.2.1 31 = .ok (.istore_n 1, 1) := by decide +kernel
theorem d_PL_isName_32 : decode mm_PL_isName.2.1 32 = .ok (.iinc 2 1, 3) := by decide +kernel
theorem d_PL_isName_35 : decode mm_PL_isName.2.1 35 = .ok (.goto (-31), 3) := by decide +kernel
theorem d_PL_isName_38 : decode mm_PL_isName.2.1 38 = .ok (.iload_n 0, 1) := by decide +kernel
theorem d_PL_isName_39 : decode mm_PL_isName.2.1 39 = .ok (.ifCond .le 11, 3) := by decide +kernel
theorem d_PL_isName_42 : decode mm_PL_isName.2.1 42 = .ok (.iload_n 1, 1) := by decide +kernel
theorem d_PL_isName_43 : decode mm_PL_isName.2.1 43 = .ok (.ifCond .ne 7, 3) := by decide +kernel
theorem d_PL_isName_46 : decode mm_PL_isName.2.1 46 = .ok (.iconst 1, 1) := by decide +kernel
theorem d_PL_isName_47 : decode mm_PL_isName.2.1 47 = .ok (.goto 4, 3) := by decide +kernel
theorem d_PL_isName_50 : decode mm_PL_isName.2.1 50 = .ok (.iconst 0, 1) := by decide +kernel
theorem d_PL_isName_51 : decode mm_PL_isName.2.1 51 = .ok (.ireturn, 1) := by decide +kernel
def wz_PL_isName_4 (K : Int32 → Prop) : Nat → Int32 → Int32 → Int32 → Prop
  | 0, _, _, _ => False
  | r0 + 1, y0, y1, y2 => (((3 : Int32) ≤ y2 → ((y0 ≤ 0 → K (0 : Int32)) ∧ (¬ y0 ≤ 0 → ((¬ y1 = 0 → K (0 : Int32)) ∧ (y1 = 0 → K (1 : Int32)))))) ∧ (¬ (3 : Int32) ≤ y2 → ((y1 ≤ 0 → ((y0 ≤ 0 → K (0 : Int32)) ∧ (¬ y0 ≤ 0 → ((¬ y1 = 0 → K (0 : Int32)) ∧ (y1 = 0 → K (1 : Int32)))))) ∧ (¬ y1 ≤ 0 → wz_PL_isNameByte (y1 - y1 / (128 : Int32) * (128 : Int32)) (fun v7 => ((¬ v7 = 0 → (wz_PL_isName_4 K r0 y0 (y1 / (128 : Int32)) (y2 + (1 : Int32)))) ∧ (v7 = 0 → K (0 : Int32))))))))
def wz_PL_isName (a0 : Int32) (K : Int32 → Prop) : Prop := (∃ r1 : Nat, wz_PL_isName_4 K r1 a0 a0 (0 : Int32))
theorem tz_PL_isName_4 {G : MzG} {B : MzB} {d : Nat} {K : Int32 → Prop} {M : MzM} : ∀ (r0 : Nat) (y0 : Int32) (y1 : Int32) (y2 : Int32), wz_PL_isName_4 K r0 y0 y1 y2 → MzJ (mzGZ K) G B (d + 1) mm_PL_isName M (0, 0) 4 [(0, .int y0), (1, .int y1), (2, .int y2)] [] := by
  intro r0
  induction r0 with
  | zero => intro y0 y1 y2 h; exact False.elim h
  | succ r0 hH4 =>
    intro y0 y1 y2 h
    unfold wz_PL_isName_4 at h
    exact (mj_iload_n d_PL_isName_4 rfl (mj_iconst (3 : Int32) d_PL_isName_5 (by decide) (mj_icmp_ge 38 d_PL_isName_6 rfl (fun hc11 => (mj_iload_n d_PL_isName_38 rfl (mj_if_le 50 d_PL_isName_39 rfl (fun hc4 => (mj_iconst (0 : Int32) d_PL_isName_50 (by decide) (mj_iretZ .boolean d_PL_isName_51 rfl rfl ((h.1 hc11).1 hc4)))) (fun hc4 => (mj_iload_n d_PL_isName_42 rfl (mj_if_ne 50 d_PL_isName_43 rfl (fun hc3 => (mj_iconst (0 : Int32) d_PL_isName_50 (by decide) (mj_iretZ .boolean d_PL_isName_51 rfl rfl (((h.1 hc11).2 hc4).1 hc3)))) (fun hc3 => (mj_iconst (1 : Int32) d_PL_isName_46 (by decide) (mj_goto 51 d_PL_isName_47 rfl (mj_iretZ .boolean d_PL_isName_51 rfl rfl (((h.1 hc11).2 hc4).2 hc3))))))))))) (fun hc11 => (mj_iload_n d_PL_isName_9 rfl (mj_if_le 38 d_PL_isName_10 rfl (fun hc10 => (mj_iload_n d_PL_isName_38 rfl (mj_if_le 50 d_PL_isName_39 rfl (fun hc6 => (mj_iconst (0 : Int32) d_PL_isName_50 (by decide) (mj_iretZ .boolean d_PL_isName_51 rfl rfl (((h.2 hc11).1 hc10).1 hc6)))) (fun hc6 => (mj_iload_n d_PL_isName_42 rfl (mj_if_ne 50 d_PL_isName_43 rfl (fun hc5 => (mj_iconst (0 : Int32) d_PL_isName_50 (by decide) (mj_iretZ .boolean d_PL_isName_51 rfl rfl ((((h.2 hc11).1 hc10).2 hc6).1 hc5)))) (fun hc5 => (mj_iconst (1 : Int32) d_PL_isName_46 (by decide) (mj_goto 51 d_PL_isName_47 rfl (mj_iretZ .boolean d_PL_isName_51 rfl rfl ((((h.2 hc11).1 hc10).2 hc6).2 hc5))))))))))) (fun hc10 => (mj_iload_n d_PL_isName_13 rfl (mj_sipush (128 : Int32) d_PL_isName_14 (by decide) (mj_irem d_PL_isName_17 (by decide) (mj_callS (As := [.int (y1 - y1 / (128 : Int32) * (128 : Int32))]) (st := []) d_PL_isName_18 cs_PL_isNameByte wl_PL_206 ws_PL_isNameByte (Nat.le_of_ble_eq_true rfl) (MzCp.mono (tz_PL_isNameByte (d := d) ((h.2 hc11).2 hc10)) (fun v7 h9 => (mj_if_ne 26 d_PL_isName_21 rfl (fun hc8 => (mj_iload_n d_PL_isName_26 rfl (mj_sipush (128 : Int32) d_PL_isName_27 (by decide) (mj_idiv d_PL_isName_30 (by decide) (mj_istore_n d_PL_isName_31 (by decide) (mj_iinc (y2 + (1 : Int32)) d_PL_isName_32 rfl (by decide) rfl (mj_goto 4 d_PL_isName_35 rfl (MzJ.loc [(0, .int y0), (1, .int (y1 / (128 : Int32))), (2, .int (y2 + (1 : Int32)))] ⟨rfl, rfl, rfl, trivial⟩ (hH4 y0 (y1 / (128 : Int32)) (y2 + (1 : Int32)) (h9.1 hc8)))))))))) (fun hc8 => (mj_iconst (0 : Int32) d_PL_isName_24 (by decide) (mj_iretZ .boolean d_PL_isName_25 rfl rfl (h9.2 hc8))))))))))))))))))
theorem tz_PL_isName {G : MzG} {B : MzB} {d : Nat} {K : Int32 → Prop} {a0 : Int32} {M : MzM} (h : wz_PL_isName a0 K) : MzCp G B (d + 1) mm_PL_isName [.int a0] M K := by
  unfold wz_PL_isName at h
  exact MzCp.of rfl (Nat.le_of_ble_eq_true rfl) (show MzJ (mzGZ K) G B (d + 1) mm_PL_isName M (0, 0) 0 [(0, .int a0)] [] from (mj_iload_n d_PL_isName_0 rfl (mj_istore_n d_PL_isName_1 (by decide) (mj_iconst (0 : Int32) d_PL_isName_2 (by decide) (mj_istore_n d_PL_isName_3 (by decide) (MzJ.loc [(0, .int a0), (1, .int a0), (2, .int (0 : Int32))] ⟨rfl, rfl, rfl, trivial⟩ (match h with | ⟨r1, h2⟩ => tz_PL_isName_4 r1 a0 a0 (0 : Int32) h2)))))))
