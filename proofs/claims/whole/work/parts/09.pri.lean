abbrev MzJG : Type := (Launch → Prop) × (List Frame → Array Value → State → Nat → Nat → (Nat → Prop) → State → Prop)
def MzJ (Γ : MzJG) (G : MzG) (B : MzB) (d : Nat) (mm : MzT) (M : MzM) (bu : Nat × Nat) (pc : Nat) (lv : List (Nat × Value)) (st : List Value) : Prop :=
  ∀ (p : Program) (l : Launch) (e : Env) (mc ms : Nat) (s : State) (m : MethodId) (args : Array Value) (below : List Frame) (meth : Method) (c : Code) (A : Nat → Prop) (cells slots : Nat) (ls : Array Slot),
    Γ.1 l → c.exceptionTable.isEmpty = true → mzX mm p s m args meth c → lv_has ls mm.2.2.1 lv → mzI G B M A s s.heap [] → cells + bu.1 ≤ mc → slots + bu.2 ≤ ms →
    W p l e (mzRm d mc ms) s m args below meth c s.heap [] cells slots (Γ.2 below args s mc ms A) (F0 m pc ls st)
/-- a method that may throw -/
def mzGP (G : MzG) (Q : MzR → MzB → MzM → Prop) : MzJG := (fun l => l.stackTraces = false, fun below args s mc ms A t => ∃ o, t.status = .running ∧ Ended t below o ∧ mzQ G Q A args s o t ∧ ((∃ L, FrameEnd s o t L mc ms ∧ ∀ q ∈ L, A q.base) ∨ (∃ a, o = .threw a ∧ s.WarmedH t.vm ∧ s.sameButNew ({ t with vm := s.vm } : State) [] mc ms)))
/-- a method that only answers an int -/
def mzZQ (K : Int32 → Prop) : Array Value → State → Outcome → State → Prop := fun _ st oc t => ∃ v : Int32, oc = .returned (some (.int v)) ∧ K v ∧ t.heap = st.heap
def mzGZ (K : Int32 → Prop) : MzJG := (fun _ => True, fun below args s mc ms _ => MQ below (mzZQ K) args s mc ms (fun _ => False))
def MzCX (G : MzG) (B : MzB) (d : Nat) (mm : MzT) (av : List Value) (M : MzM) (bu : Nat × Nat) (Q : MzR → MzB → MzM → Prop) : Prop :=
  ∀ (l : Launch) (sz : Nat), l.stackTraces = false → MetFree l mm.1 (headSpec (mzWs mm) (mzRm d bu.1 bu.2)) (va_Pc av (mzPre G B M sz)) (fun _ _ _ _ _ => True) (fun a st o t => mzQ G Q (va_A (mz_w B M) sz) a st o t ∧ ((∃ L, FrameEnd st o t L bu.1 bu.2 ∧ ∀ q ∈ L, va_A (mz_w B M) sz q.base) ∨ (∃ x, o = .threw x ∧ st.WarmedH t.vm ∧ st.sameButNew ({ t with vm := st.vm } : State) [] bu.1 bu.2)))
def MzCp (G : MzG) (B : MzB) (d : Nat) (mm : MzT) (av : List Value) (M : MzM) (K : Int32 → Prop) : Prop :=
  ∀ (l : Launch) (sz : Nat), Met l mm.1 (mzWs mm) (mzRm d 0 0) (va_Pc av (mzPre G B M sz)) (mzZQ K) 0 0 (fun _ => False)
theorem mz_exc {mm : MzT} {args : Array Value} {s : State} {m : MethodId} {meth : Method} {c : Code} (hn : s.methodNamed? mm.1 = some m) (hm : s.vm.method? m = some meth) (hc : meth.code = some c) (h : (Cond.code mm.1 mm.2.1 mm.2.2.1 mm.2.2.2).before args s = true) : c.exceptionTable.isEmpty = true := by
  obtain ⟨meth', c', h1, h2, -, -, -, -, h7, -⟩ := Cond.code_spec hn h
  cases hm.symm.trans h1
  cases hc.symm.trans h2
  exact h7
theorem mz_codeOf {T : State} {m : MethodId} {c : Code} {below : List Frame} {meth : Method} (h : At T m c below) (hm : T.vm.method? m = some meth) : meth.code = some c := by
  have h1 := h.code
  rw [State.code?_eq, hm] at h1
  exact h1
set_option maxHeartbeats 4000000 in
theorem MzCX.of {G : MzG} {B : MzB} {d : Nat} {mm : MzT} {av : List Value} {M : MzM} {bu : Nat × Nat} {Q : MzR → MzB → MzM → Prop} (hpl : plainName mm.1.cls = true) (hlen : (lg_sl av).length ≤ mm.2.2.1) (h : MzJ (mzGP G Q) G B d mm M bu 0 (lv_args 0 av) []) : MzCX G B d mm av M bu Q := by
  intro l sz hst
  refine MetFree.of_bodyS (code := mm.2.1) (maxLocals := mm.2.2.1) (ret := mm.2.2.2) hpl ?_ ?_
  · intro args s m h hn
    obtain ⟨meth, c, h1, h2, h3, h4, h5, h6, -, -⟩ := Cond.code_spec hn (atoms_spec (ws := mzWs mm) h _ List.mem_cons_self)
    exact ⟨meth, c, h1, h2, h3, h4, h5, h6⟩
  · intro p e s m args below meth c s₁ B0 hml hP _
    obtain ⟨rfl, hsz, hPw, hK, hD0, hR⟩ := hP
    have hl := lv_entry av (n := mm.2.2.1) hlen
    have hh0 : s₁.heap = s.heap := by rw [B0.state]; rfl
    have hts := atoms_spec (ws := mzWs mm) B0.pre
    have hmc : meth.code = some c := mz_codeOf B0.here (by rw [B0.state]; exact B0.method)
    subst hsz
    rw [lg_entry_eq]
    obtain ⟨t, a1, o, b1, b2, b3, b4⟩ := h p l e bu.1 bu.2 s m _ below meth c (va_A (mz_w B M) s.heap.size) 0 0 _ hst (mz_exc B0.named B0.method hmc (hts _ List.mem_cons_self)) ⟨B0.exec, B0.bytes, hml, B0.returns, hts, findClass_of_methodNamed B0.named, B0.notSynchronized, (name_of_methodNamed B0.named B0.method).1⟩ hl ⟨hK, hPw, hD0.self, va_S.rf, fun q hq => Or.inr hq, hR⟩ (by omega) (by omega) s₁ hh0 (Stand.of_body B0)
    exact ⟨t, o, a1, b1, b2, b3, b4⟩
set_option maxHeartbeats 4000000 in
theorem MzCp.of {G : MzG} {B : MzB} {d : Nat} {mm : MzT} {av : List Value} {M : MzM} {K : Int32 → Prop} (hpl : plainName mm.1.cls = true) (hlen : (lg_sl av).length ≤ mm.2.2.1) (h : MzJ (mzGZ K) G B d mm M (0, 0) 0 (lv_args 0 av) []) : MzCp G B d mm av M K := by
  intro l sz
  refine Met.ofW (cc := mm.2.1) (maxL := mm.2.2.1) (ret := mm.2.2.2) hpl rfl ?_
  intro p e s m args below meth c s₁ B0 hml hv
  obtain ⟨rfl, hsz, hP, hK, hD0, hR⟩ := hv
  have hl := lv_entry av (n := mm.2.2.1) hlen
  have hts := atoms_spec (ws := mzWs mm) B0.pre
  have hmc : meth.code = some c := mz_codeOf B0.here (by rw [B0.state]; exact B0.method)
  rw [lg_entry_eq]
  subst hsz
  exact h p l e 0 0 s m _ below meth c (va_A (mz_w B M) s.heap.size) 0 0 _ trivial (mz_exc B0.named B0.method hmc (hts _ List.mem_cons_self)) ⟨B0.exec, B0.bytes, hml, B0.returns, hts, findClass_of_methodNamed B0.named, B0.notSynchronized, (name_of_methodNamed B0.named B0.method).1⟩ hl ⟨hK, hP, hD0.self, va_S.rf, fun q hq => Or.inr hq, hR⟩ (by omega) (by omega)
section MzJRules
variable {Γ : MzJG} {G : MzG} {B : MzB} {d : Nat} {mm : MzT} {M : MzM} {bu : Nat × Nat} {pc : Nat} {lv : List (Nat × Value)} {st : List Value}
theorem MzJ.ofS {Q : MzR → MzB → MzM → Prop} (h : MzS G B d mm M bu Q pc lv st) : MzJ (mzGP G Q) G B d mm M bu pc lv st := by
  intro p l e mc ms s m args below meth c A cells slots ls hg hex hX hl hI c1 c2 T hT X
  obtain ⟨t, a1, o, b1, b2, b3, b4⟩ := h p l e mc ms s m args below meth c A s.heap [] cells slots ls hX hl hI c1 c2 T hT X
  exact ⟨t, a1, o, b1, b2, b3, Or.inl b4⟩
theorem MzJ.loc (lv' : List (Nat × Value)) (hs : mzSub lv lv') (h : MzJ Γ G B d mm M bu pc lv' st) : MzJ Γ G B d mm M bu pc lv st :=
  fun p l e mc ms s m args below meth c A cells slots ls hg hex hX hl hI c1 c2 => h p l e mc ms s m args below meth c A cells slots ls hg hex hX ⟨hl.1, hl.2.1, fun q hq => hl.2.2 q (mz_lk_mem (mzSub_all hs q hq))⟩ hI c1 c2
theorem mj_iconst {n : Int} (v : Int32) (hd : decode mm.2.1 pc = .ok (.iconst n, 1)) (hv : Int32.ofInt n = v) (h : MzJ Γ G B d mm M bu (pc + 1) lv (.int v :: st)) : MzJ Γ G B d mm M bu pc lv st :=
  fun p l e mc ms s m args below meth c A cells slots ls hg hex hX hl hI c1 c2 => lv_iconst hX.1 hX.2.1 hd hv (h p l e mc ms s m args below meth c A cells slots ls hg hex hX hl hI c1 c2)
theorem mj_bipush {n : Int} (v : Int32) (hd : decode mm.2.1 pc = .ok (.bipush n, 2)) (hv : (Int8.ofInt n).toInt32 = v) (h : MzJ Γ G B d mm M bu (pc + 2) lv (.int v :: st)) : MzJ Γ G B d mm M bu pc lv st :=
  fun p l e mc ms s m args below meth c A cells slots ls hg hex hX hl hI c1 c2 => lv_bipush hX.1 hX.2.1 hd hv (h p l e mc ms s m args below meth c A cells slots ls hg hex hX hl hI c1 c2)
theorem mj_sipush {n : Int} (v : Int32) (hd : decode mm.2.1 pc = .ok (.sipush n, 3)) (hv : (Int16.ofInt n).toInt32 = v) (h : MzJ Γ G B d mm M bu (pc + 3) lv (.int v :: st)) : MzJ Γ G B d mm M bu pc lv st :=
  fun p l e mc ms s m args below meth c A cells slots ls hg hex hX hl hI c1 c2 => lv_sipush hX.1 hX.2.1 hd hv (h p l e mc ms s m args below meth c A cells slots ls hg hex hX hl hI c1 c2)
theorem mj_idiv {x y : Int32} (hd : decode mm.2.1 pc = .ok (.idiv, 1)) (hne : ¬ y = 0) (h : MzJ Γ G B d mm M bu (pc + 1) lv (.int (x / y) :: st)) : MzJ Γ G B d mm M bu pc lv (.int y :: .int x :: st) :=
  fun p l e mc ms s m args below meth c A cells slots ls hg hex hX hl hI c1 c2 => lv_idiv hX.1 hX.2.1 hd hne (h p l e mc ms s m args below meth c A cells slots ls hg hex hX hl hI c1 c2)
theorem mj_irem {x y : Int32} (hd : decode mm.2.1 pc = .ok (.irem, 1)) (hne : ¬ y = 0) (h : MzJ Γ G B d mm M bu (pc + 1) lv (.int (x - x / y * y) :: st)) : MzJ Γ G B d mm M bu pc lv (.int y :: .int x :: st) :=
  fun p l e mc ms s m args below meth c A cells slots ls hg hex hX hl hI c1 c2 => lv_irem hX.1 hX.2.1 hd hne (h p l e mc ms s m args below meth c A cells slots ls hg hex hX hl hI c1 c2)
theorem mj_iload_n {k : Fin 4} {x : Int32} (hd : decode mm.2.1 pc = .ok (.iload_n k, 1)) (hk : mz_lk lv k.val = some (.int x)) (h : MzJ Γ G B d mm M bu (pc + 1) lv ((.int x) :: st)) : MzJ Γ G B d mm M bu pc lv st :=
  fun p l e mc ms s m args below meth c A cells slots ls hg hex hX hl hI c1 c2 => lv_iload_n hX.1 hX.2.1 hd rfl (mz_lk_at hl hk) (h p l e mc ms s m args below meth c A cells slots ls hg hex hX hl hI c1 c2)
theorem mj_iload {k : Nat} {x : Int32} (hd : decode mm.2.1 pc = .ok (.iload k, 2)) (hk : mz_lk lv k = some (.int x)) (h : MzJ Γ G B d mm M bu (pc + 2) lv ((.int x) :: st)) : MzJ Γ G B d mm M bu pc lv st :=
  fun p l e mc ms s m args below meth c A cells slots ls hg hex hX hl hI c1 c2 => lv_iload hX.1 hX.2.1 hd (mz_lk_at hl hk) (h p l e mc ms s m args below meth c A cells slots ls hg hex hX hl hI c1 c2)
theorem mj_aload_n {k : Fin 4} {x : Nat} (hd : decode mm.2.1 pc = .ok (.aload_n k, 1)) (hk : mz_lk lv k.val = some (.ref x)) (h : MzJ Γ G B d mm M bu (pc + 1) lv ((.ref x) :: st)) : MzJ Γ G B d mm M bu pc lv st :=
  fun p l e mc ms s m args below meth c A cells slots ls hg hex hX hl hI c1 c2 => lv_aload_n hX.1 hX.2.1 hd rfl (mz_lk_at hl hk) (h p l e mc ms s m args below meth c A cells slots ls hg hex hX hl hI c1 c2)
theorem mj_istore_n {k : Fin 4} {x : Int32} (hd : decode mm.2.1 pc = .ok (.istore_n k, 1)) (hn : k.val < mm.2.2.1) (h : MzJ Γ G B d mm M bu (pc + 1) (mz_st lv k.val (.int x)) st) : MzJ Γ G B d mm M bu pc lv ((.int x) :: st) :=
  fun p l e mc ms s m args below meth c A cells slots ls hg hex hX hl hI c1 c2 => lv_istore_n hX.1 hX.2.1 hd rfl hl hn rfl (fun ls' hl' => h p l e mc ms s m args below meth c A cells slots ls' hg hex hX hl' hI c1 c2)
theorem mj_iinc {i : Nat} {n : Int} {x : Int32} (v : Int32) (hd : decode mm.2.1 pc = .ok (.iinc i n, 3)) (hk : mz_lk lv i = some (.int x)) (hn : i < mm.2.2.1) (hv : x + Int32.ofInt n = v) (h : MzJ Γ G B d mm M bu (pc + 3) (mz_st lv i (.int v)) st) : MzJ Γ G B d mm M bu pc lv st := by
  intro p l e mc ms s m args below meth c A cells slots ls hg hex hX hl hI c1 c2
  obtain ⟨k, hk'⟩ := List.getElem?_of_mem (mz_lk_mem hk)
  exact lv_iinc hX.1 hX.2.1 hd hl hk' hv hn rfl (fun ls' hl' => h p l e mc ms s m args below meth c A cells slots ls' hg hex hX hl' hI c1 c2)
theorem mj_if_eq {x : Int32} {off : Int} (tgt : Nat) (hd : decode mm.2.1 pc = .ok (.ifCond .eq off, 3)) (ht : (pc : Int) + off = (tgt : Int)) (kt : x = 0 → MzJ Γ G B d mm M bu tgt lv st) (kf : ¬ x = 0 → MzJ Γ G B d mm M bu (pc + 3) lv st) : MzJ Γ G B d mm M bu pc lv (.int x :: st) :=
  fun p l e mc ms s m args below meth c A cells slots ls hg hex hX hl hI c1 c2 => lv_if_eq hX.1 hX.2.1 hd ht (fun hc => kt hc p l e mc ms s m args below meth c A cells slots ls hg hex hX hl hI c1 c2) (fun hc => kf hc p l e mc ms s m args below meth c A cells slots ls hg hex hX hl hI c1 c2)
theorem mj_if_lt {x : Int32} {off : Int} (tgt : Nat) (hd : decode mm.2.1 pc = .ok (.ifCond .lt off, 3)) (ht : (pc : Int) + off = (tgt : Int)) (kt : x < 0 → MzJ Γ G B d mm M bu tgt lv st) (kf : ¬ x < 0 → MzJ Γ G B d mm M bu (pc + 3) lv st) : MzJ Γ G B d mm M bu pc lv (.int x :: st) :=
  fun p l e mc ms s m args below meth c A cells slots ls hg hex hX hl hI c1 c2 => lv_if_lt hX.1 hX.2.1 hd ht (fun hc => kt hc p l e mc ms s m args below meth c A cells slots ls hg hex hX hl hI c1 c2) (fun hc => kf hc p l e mc ms s m args below meth c A cells slots ls hg hex hX hl hI c1 c2)
theorem mj_if_ge {x : Int32} {off : Int} (tgt : Nat) (hd : decode mm.2.1 pc = .ok (.ifCond .ge off, 3)) (ht : (pc : Int) + off = (tgt : Int)) (kt : 0 ≤ x → MzJ Γ G B d mm M bu tgt lv st) (kf : ¬ 0 ≤ x → MzJ Γ G B d mm M bu (pc + 3) lv st) : MzJ Γ G B d mm M bu pc lv (.int x :: st) :=
  fun p l e mc ms s m args below meth c A cells slots ls hg hex hX hl hI c1 c2 => lv_if_ge hX.1 hX.2.1 hd ht (fun hc => kt hc p l e mc ms s m args below meth c A cells slots ls hg hex hX hl hI c1 c2) (fun hc => kf hc p l e mc ms s m args below meth c A cells slots ls hg hex hX hl hI c1 c2)
theorem mj_if_gt {x : Int32} {off : Int} (tgt : Nat) (hd : decode mm.2.1 pc = .ok (.ifCond .gt off, 3)) (ht : (pc : Int) + off = (tgt : Int)) (kt : 0 < x → MzJ Γ G B d mm M bu tgt lv st) (kf : ¬ 0 < x → MzJ Γ G B d mm M bu (pc + 3) lv st) : MzJ Γ G B d mm M bu pc lv (.int x :: st) :=
  fun p l e mc ms s m args below meth c A cells slots ls hg hex hX hl hI c1 c2 => lv_if_gt hX.1 hX.2.1 hd ht (fun hc => kt hc p l e mc ms s m args below meth c A cells slots ls hg hex hX hl hI c1 c2) (fun hc => kf hc p l e mc ms s m args below meth c A cells slots ls hg hex hX hl hI c1 c2)
theorem mj_if_le {x : Int32} {off : Int} (tgt : Nat) (hd : decode mm.2.1 pc = .ok (.ifCond .le off, 3)) (ht : (pc : Int) + off = (tgt : Int)) (kt : x ≤ 0 → MzJ Γ G B d mm M bu tgt lv st) (kf : ¬ x ≤ 0 → MzJ Γ G B d mm M bu (pc + 3) lv st) : MzJ Γ G B d mm M bu pc lv (.int x :: st) :=
  fun p l e mc ms s m args below meth c A cells slots ls hg hex hX hl hI c1 c2 => lv_if_le hX.1 hX.2.1 hd ht (fun hc => kt hc p l e mc ms s m args below meth c A cells slots ls hg hex hX hl hI c1 c2) (fun hc => kf hc p l e mc ms s m args below meth c A cells slots ls hg hex hX hl hI c1 c2)
theorem mj_if_ne {x : Int32} {off : Int} (tgt : Nat) (hd : decode mm.2.1 pc = .ok (.ifCond .ne off, 3)) (ht : (pc : Int) + off = (tgt : Int)) (kt : ¬ x = 0 → MzJ Γ G B d mm M bu tgt lv st) (kf : x = 0 → MzJ Γ G B d mm M bu (pc + 3) lv st) : MzJ Γ G B d mm M bu pc lv (.int x :: st) :=
  fun p l e mc ms s m args below meth c A cells slots ls hg hex hX hl hI c1 c2 => lv_if_ne hX.1 hX.2.1 hd ht (fun hc => kt hc p l e mc ms s m args below meth c A cells slots ls hg hex hX hl hI c1 c2) (fun hc => kf hc p l e mc ms s m args below meth c A cells slots ls hg hex hX hl hI c1 c2)
theorem mj_icmp_eq {x y : Int32} {off : Int} (tgt : Nat) (hd : decode mm.2.1 pc = .ok (.if_icmp .eq off, 3)) (ht : (pc : Int) + off = (tgt : Int)) (kt : x = y → MzJ Γ G B d mm M bu tgt lv st) (kf : ¬ x = y → MzJ Γ G B d mm M bu (pc + 3) lv st) : MzJ Γ G B d mm M bu pc lv (.int y :: .int x :: st) :=
  fun p l e mc ms s m args below meth c A cells slots ls hg hex hX hl hI c1 c2 => lv_icmp_eq hX.1 hX.2.1 hd ht (fun hc => kt hc p l e mc ms s m args below meth c A cells slots ls hg hex hX hl hI c1 c2) (fun hc => kf hc p l e mc ms s m args below meth c A cells slots ls hg hex hX hl hI c1 c2)
theorem mj_icmp_lt {x y : Int32} {off : Int} (tgt : Nat) (hd : decode mm.2.1 pc = .ok (.if_icmp .lt off, 3)) (ht : (pc : Int) + off = (tgt : Int)) (kt : x < y → MzJ Γ G B d mm M bu tgt lv st) (kf : ¬ x < y → MzJ Γ G B d mm M bu (pc + 3) lv st) : MzJ Γ G B d mm M bu pc lv (.int y :: .int x :: st) :=
  fun p l e mc ms s m args below meth c A cells slots ls hg hex hX hl hI c1 c2 => lv_icmp_lt hX.1 hX.2.1 hd ht (fun hc => kt hc p l e mc ms s m args below meth c A cells slots ls hg hex hX hl hI c1 c2) (fun hc => kf hc p l e mc ms s m args below meth c A cells slots ls hg hex hX hl hI c1 c2)
theorem mj_icmp_ge {x y : Int32} {off : Int} (tgt : Nat) (hd : decode mm.2.1 pc = .ok (.if_icmp .ge off, 3)) (ht : (pc : Int) + off = (tgt : Int)) (kt : y ≤ x → MzJ Γ G B d mm M bu tgt lv st) (kf : ¬ y ≤ x → MzJ Γ G B d mm M bu (pc + 3) lv st) : MzJ Γ G B d mm M bu pc lv (.int y :: .int x :: st) :=
  fun p l e mc ms s m args below meth c A cells slots ls hg hex hX hl hI c1 c2 => lv_icmp_ge hX.1 hX.2.1 hd ht (fun hc => kt hc p l e mc ms s m args below meth c A cells slots ls hg hex hX hl hI c1 c2) (fun hc => kf hc p l e mc ms s m args below meth c A cells slots ls hg hex hX hl hI c1 c2)
theorem mj_icmp_gt {x y : Int32} {off : Int} (tgt : Nat) (hd : decode mm.2.1 pc = .ok (.if_icmp .gt off, 3)) (ht : (pc : Int) + off = (tgt : Int)) (kt : y < x → MzJ Γ G B d mm M bu tgt lv st) (kf : ¬ y < x → MzJ Γ G B d mm M bu (pc + 3) lv st) : MzJ Γ G B d mm M bu pc lv (.int y :: .int x :: st) :=
  fun p l e mc ms s m args below meth c A cells slots ls hg hex hX hl hI c1 c2 => lv_icmp_gt hX.1 hX.2.1 hd ht (fun hc => kt hc p l e mc ms s m args below meth c A cells slots ls hg hex hX hl hI c1 c2) (fun hc => kf hc p l e mc ms s m args below meth c A cells slots ls hg hex hX hl hI c1 c2)
theorem mj_icmp_le {x y : Int32} {off : Int} (tgt : Nat) (hd : decode mm.2.1 pc = .ok (.if_icmp .le off, 3)) (ht : (pc : Int) + off = (tgt : Int)) (kt : x ≤ y → MzJ Γ G B d mm M bu tgt lv st) (kf : ¬ x ≤ y → MzJ Γ G B d mm M bu (pc + 3) lv st) : MzJ Γ G B d mm M bu pc lv (.int y :: .int x :: st) :=
  fun p l e mc ms s m args below meth c A cells slots ls hg hex hX hl hI c1 c2 => lv_icmp_le hX.1 hX.2.1 hd ht (fun hc => kt hc p l e mc ms s m args below meth c A cells slots ls hg hex hX hl hI c1 c2) (fun hc => kf hc p l e mc ms s m args below meth c A cells slots ls hg hex hX hl hI c1 c2)
theorem mj_icmp_ne {x y : Int32} {off : Int} (tgt : Nat) (hd : decode mm.2.1 pc = .ok (.if_icmp .ne off, 3)) (ht : (pc : Int) + off = (tgt : Int)) (kt : ¬ x = y → MzJ Γ G B d mm M bu tgt lv st) (kf : x = y → MzJ Γ G B d mm M bu (pc + 3) lv st) : MzJ Γ G B d mm M bu pc lv (.int y :: .int x :: st) :=
  fun p l e mc ms s m args below meth c A cells slots ls hg hex hX hl hI c1 c2 => lv_icmp_ne hX.1 hX.2.1 hd ht (fun hc => kt hc p l e mc ms s m args below meth c A cells slots ls hg hex hX hl hI c1 c2) (fun hc => kf hc p l e mc ms s m args below meth c A cells slots ls hg hex hX hl hI c1 c2)
theorem mj_goto {off : Int} (tgt : Nat) (hd : decode mm.2.1 pc = .ok (.goto off, 3)) (ht : (pc : Int) + off = (tgt : Int)) (h : MzJ Γ G B d mm M bu tgt lv st) : MzJ Γ G B d mm M bu pc lv st :=
  fun p l e mc ms s m args below meth c A cells slots ls hg hex hX hl hI c1 c2 => lv_goto hX.1 hX.2.1 hd ht (h p l e mc ms s m args below meth c A cells slots ls hg hex hX hl hI c1 c2)
theorem mj_ldc {idx : Nat} {v : Int32} (hd : decode mm.2.1 pc = .ok (.ldc idx, 2)) (hw : Jvm.Cond.constant mm.1.cls idx v ∈ mzAll) (h : MzJ Γ G B d mm M bu (pc + 2) lv (.int v :: st)) : MzJ Γ G B d mm M bu pc lv st :=
  fun p l e mc ms s m args below meth c A cells slots ls hg hex hX hl hI c1 c2 => lv_ldc hX.1 hX.2.1 hX.2.2.2.2.2.1 (hX.2.2.2.2.1 _ (List.mem_cons_of_mem _ hw)) hd (h p l e mc ms s m args below meth c A cells slots ls hg hex hX hl hI c1 c2)
theorem mj_iretZ {K : Int32 → Prop} {v : Int32} (ty : FieldType) (hd : decode mm.2.1 pc = .ok (.ireturn, 1)) (hr : mm.2.2.2 = some ty) (hn : narrow ty (.int v) = .int v) (h : K v) : MzJ (mzGZ K) G B d mm M (0, 0) pc lv [.int v] := by
  intro p l e mc ms s m args below meth c A cells slots ls hg hex hX hl hI c1 c2
  have hlocks : meth.locks = false := hX.2.2.2.2.2.2.1
  refine W.widen (k := mc) (n := ms) (by omega) (by omega) ?_
  exact W.zret (Qc := mzZQ K) (free := fun _ => False) (locs := []) hX.1 hX.2.1 (hX.2.2.2.1.trans hr) hn (fun t ht hW => ⟨v, rfl, h, ht⟩) (fun q hq => by cases hq) hd hlocks
theorem mj_getV {i : MzL} {ci k idx N : Nat} {C : String} {T : u_T} {ty : Nat → FieldType} (hC : mzCl ci C T N ty) (hd : decode mm.2.1 pc = .ok (.getfield idx, 3)) (hk : k < N) (hw : Cond.fieldLink mm.1.cls idx (T k).1 (T k).2.1 (T k).2.2.1 ∈ mzAll) (hi : i ∈ mz_dm B) (hkd : mzKd i = .inl ci) (h : MzJ Γ G B d mm M bu (pc + 3) lv (mz_fv B M i ci k :: st)) : MzJ Γ G B d mm M bu pc lv (.ref (mz_ad B i) :: st) := by
  intro p l e mc ms s m args below meth c A cells slots ls hg hex hX hl hI c1 c2
  obtain ⟨q0, -, hq0⟩ := mz_pl M hi
  rw [mz_ce_o hkd] at hq0
  exact va_get (D := G.1) (cl := vwCl) (ci := ci) (C := C) (T := T) (N := N) (Ts := mzWs mm) hX.1 hX.2.1 hX.2.2.2.2.1 (fun w hw => List.mem_cons_of_mem _ (hC.2.1 w hw)) hX.2.2.2.2.2.1 hI.1 hI.2.1 q0 hq0 hC.1 k hk (hX.2.2.2.2.1 _ (List.mem_cons_of_mem _ hw)) (fun _ h9 => h9) (mz_fs_at (by rw [hC.2.2.2.2.1]; exact hk)) hd (h p l e mc ms s m args below meth c A cells slots ls hg hex hX hl hI c1 c2)
theorem mj_getI {i : MzL} {ci k idx N : Nat} {C : String} {T : u_T} {ty : Nat → FieldType} (hC : mzCl ci C T N ty) (hd : decode mm.2.1 pc = .ok (.getfield idx, 3)) (hk : k < N) (hw : Cond.fieldLink mm.1.cls idx (T k).1 (T k).2.1 (T k).2.2.1 ∈ mzAll) (hR : mzIsR ci k = false) (hi : i ∈ mz_dm B) (hkd : mzKd i = .inl ci) (h : MzJ Γ G B d mm M bu (pc + 3) lv (.int (mz_i M i k) :: st)) : MzJ Γ G B d mm M bu pc lv (.ref (mz_ad B i) :: st) :=
  mj_getV hC hd hk hw hi hkd (by simpa [mz_fv, hR] using h)
theorem mj_getR {i : MzL} {ci k idx N : Nat} {C : String} {T : u_T} {ty : Nat → FieldType} (hC : mzCl ci C T N ty) (hd : decode mm.2.1 pc = .ok (.getfield idx, 3)) (hk : k < N) (hw : Cond.fieldLink mm.1.cls idx (T k).1 (T k).2.1 (T k).2.2.1 ∈ mzAll) (hR : mzIsR ci k = true) (hi : i ∈ mz_dm B) (hkd : mzKd i = .inl ci) {a : MzL} (hr : mz_r M i k = some a) (h : MzJ Γ G B d mm M bu (pc + 3) lv (.ref (mz_ad B a) :: st)) : MzJ Γ G B d mm M bu pc lv (.ref (mz_ad B i) :: st) :=
  mj_getV hC hd hk hw hi hkd (by simpa [mz_fv, hR, hr, va_rf, mz_ar] using h)
theorem mj_getVN {i : MzL} {ci k idx N : Nat} {C : String} {T : u_T} {ty : Nat → FieldType} (hC : mzCl ci C T N ty) (hd : decode mm.2.1 pc = .ok (.getfield idx, 3)) (hk : k < N) {host : String} (hw : mzNw (.fieldLinkNest mm.1.cls idx (T k).1 (T k).2.1 (T k).2.2.1 host) ∈ mzRo) (hi : i ∈ mz_dm B) (hkd : mzKd i = .inl ci) (h : MzJ Γ G B d mm M bu (pc + 3) lv (mz_fv B M i ci k :: st)) : MzJ Γ G B d mm M bu pc lv (.ref (mz_ad B i) :: st) := by
  intro p l e mc ms s m args below meth c A cells slots ls hg hex hX hl hI c1 c2
  obtain ⟨q0, -, hq0⟩ := mz_pl M hi
  rw [mz_ce_o hkd] at hq0
  exact va_getN (D := G.1) (cl := vwCl) (ci := ci) (C := C) (T := T) (N := N) (Ts := mzWs mm) hX.1 hX.2.1 hX.2.2.2.2.1 (fun w hw => List.mem_cons_of_mem _ (hC.2.1 w hw)) hX.2.2.2.2.2.1 hI.1 hI.2.1 q0 hq0 hC.1 k hk (va_Nw.use rfl (hI.2.2.2.2.2 _ hw).2) (fun _ h9 => h9) (mz_fs_at (by rw [hC.2.2.2.2.1]; exact hk)) hd (h p l e mc ms s m args below meth c A cells slots ls hg hex hX hl hI c1 c2)
theorem mj_getIN {i : MzL} {ci k idx N : Nat} {C : String} {T : u_T} {ty : Nat → FieldType} (hC : mzCl ci C T N ty) (hd : decode mm.2.1 pc = .ok (.getfield idx, 3)) (hk : k < N) {host : String} (hw : mzNw (.fieldLinkNest mm.1.cls idx (T k).1 (T k).2.1 (T k).2.2.1 host) ∈ mzRo) (hR : mzIsR ci k = false) (hi : i ∈ mz_dm B) (hkd : mzKd i = .inl ci) (h : MzJ Γ G B d mm M bu (pc + 3) lv (.int (mz_i M i k) :: st)) : MzJ Γ G B d mm M bu pc lv (.ref (mz_ad B i) :: st) :=
  mj_getVN hC hd hk hw hi hkd (by simpa [mz_fv, hR] using h)
theorem mj_getRN {i : MzL} {ci k idx N : Nat} {C : String} {T : u_T} {ty : Nat → FieldType} (hC : mzCl ci C T N ty) (hd : decode mm.2.1 pc = .ok (.getfield idx, 3)) (hk : k < N) {host : String} (hw : mzNw (.fieldLinkNest mm.1.cls idx (T k).1 (T k).2.1 (T k).2.2.1 host) ∈ mzRo) (hR : mzIsR ci k = true) (hi : i ∈ mz_dm B) (hkd : mzKd i = .inl ci) {a : MzL} (hr : mz_r M i k = some a) (h : MzJ Γ G B d mm M bu (pc + 3) lv (.ref (mz_ad B a) :: st)) : MzJ Γ G B d mm M bu pc lv (.ref (mz_ad B i) :: st) :=
  mj_getVN hC hd hk hw hi hkd (by simpa [mz_fv, hR, hr, va_rf, mz_ar] using h)
theorem mj_aald {i : MzL} {n : Nat} {E : String} {x : Int32} (j : Nat) {a : MzL} (hd : decode mm.2.1 pc = .ok (.aaload, 1)) (hi : i ∈ mz_dm B) (hkd : mzKd i = .inr (.object E, n)) (hj : x.toInt = (j : Int)) (hn : j < n) (hr : mz_r M i j = some a) (h : MzJ Γ G B d mm M bu (pc + 1) lv (.ref (mz_ad B a) :: st)) : MzJ Γ G B d mm M bu pc lv (.int x :: .ref (mz_ad B i) :: st) := by
  intro p l e mc ms s m args below meth c A cells slots ls hg hex hX hl hI c1 c2
  obtain ⟨q0, -, hq0⟩ := mz_pl M hi
  obtain ⟨t0, ht0⟩ := mz_tyl hi hkd
  rw [mz_ce_r hkd rfl] at hq0
  obtain ⟨g1, g2⟩ := mz_ix hj hn
  refine va_aldq hX.1 hX.2.1 hI.1 hI.2.1 q0 t0 hq0 ht0 g1 hd ?_
  rw [g2, hr]
  exact h p l e mc ms s m args below meth c A cells slots ls hg hex hX hl hI c1 c2
theorem mj_callS {mm' : MzT} {idx : Nat} {As : List Value} (hd : decode mm.2.1 pc = .ok (.invokestatic idx, 3)) (hcs : mzCall mm mm' As.length) (hw : Cond.methodLink mm.1.cls idx mm'.1 ∈ mzAll) (hin : Cond.static mm'.1 ∈ mzAll) (hst : (st.map fun v => v.category).sum ≤ 8)
    (h : MzCp G B d mm' As M (fun v => MzJ Γ G B (d + 1) mm M bu (pc + 3) lv (.int v :: st))) : MzJ Γ G B (d + 1) mm M bu pc lv (As.reverse ++ st) := by
  intro p l e mc ms s m args below meth c A cells slots ls hg hex hX hl hI c1 c2
  have hr := va_runS (p := p) (l := l) (e := e) (R := mzRm (d + 1) mc ms) (s := s) (m := m) (args := args) (below := below) (meth := meth) (c := c) (H := s.heap) (locs := []) (cells := cells) (slots := slots) (g := F0 m pc ls (As.reverse ++ st)) (y := mm'.1) (bytes := mm'.2.1) (maxL := mm'.2.2.1) (ret := mm'.2.2.2) (ws := mzWs mm') (rm := mzRm d 0 0) (As := As) (rest := st) (nL := mm.2.2.1) (Ts := mzWs mm) (own := mm.1.cls) (n := As.length) ⟨hX.1, hX.2.1, hX.2.2.1, hX.2.2.2.2.2.1, hX.2.2.2.2.1⟩ (h l s.heap.size) ⟨callB_of As.length hX.2.2.2.2.1 (mz_good hcs.2.1) rfl rfl rfl (hX.2.2.2.2.1 _ (List.mem_cons_of_mem _ hcs.1)) (hX.2.2.2.2.1 _ (List.mem_cons_of_mem _ hw)) hcs.2.2.1 ⟨Nat.le_refl _, show 8 + (mm'.2.2.1 + 11) + 46 * d ≤ 46 * (d + 1) by have := hcs.2.2.2; omega⟩, hX.2.2.2.2.1 _ (List.mem_cons_of_mem _ hin)⟩ ⟨mz_pre_blind, fun U hU hW => mz_preOf hI hU hW⟩ rfl rfl hl.1 rfl (lv_room hst) hd ⟨show cells + 0 ≤ mc by omega, show slots + 0 ≤ ms by omega⟩
  intro T hT X
  obtain ⟨v, st₀, t, T', L, h0, X', hL, e1, e2, ⟨v', hv', hK, hh⟩, stp⟩ := hr T hT X
  cases hv'
  have hL0 : L = [] := by
    cases L with
    | nil => rfl
    | cons q r => exact (hL q List.mem_cons_self).elim
  subst hL0
  have hT' : T'.heap = s.heap := by rw [e1, hh, h0]
  obtain ⟨t2, a1, b1⟩ := hK p l e mc ms s m args below meth c A cells slots ls hg hex hX hl hI c1 c2 T' hT' X'
  exact ⟨t2, stp t2 a1, b1⟩
end MzJRules
theorem mz_same0 {s t : State} {k n : Nat} (h : s.sameButNew t [] k n) : ∀ q : Nat, q < s.heap.size → t.heap[q]? = s.heap[q]? := by
  intro q hq
  obtain ⟨-, -, -, -, -, h6⟩ := h
  have hc : s.heap[q]? = some s.heap[q] := Array.getElem?_eq_getElem hq
  obtain ⟨c', g1, g2, g3, g4⟩ := h6 q _ hc
  rw [g1, hc]
  congr 1
  rw [g2]
  have : c'.slots = s.heap[q].slots := by
    apply Array.ext_getElem?
    intro i
    exact g4 i (by simp)
  rw [this]
theorem mz_isRef {C n ds : String} {A : Nat → Prop} {args : Array Value} {s : State} {ra : Nat → Nat} (h : mzRefZ C n ds ra A s s.heap) : (Cond.isRef (.static C n ds)).before args s = true := by
  obtain ⟨v, hv, cf, kf, fi, f, a, cell, h1, h2, h3, h4, h5, h6, h7, h8⟩ := h
  have he : (Term.static C n ds).eval args s none [] s = some v := Term.static_eval h1 h2 h4 h5 h6 h7
  cases v <;> simp_all [Cond.before, Cond.holds, Cond.value, Value.isRef]
def mzRU : Cond := .isRef (.static "java/lang/Throwable" "UNASSIGNED_STACK" "[Ljava/lang/StackTraceElement;")
def mzRS : Cond := .isRef (.static "java/lang/Throwable" "SUPPRESSED_SENTINEL" "Ljava/util/List;")
set_option maxHeartbeats 4000000 in
theorem mj_throw {G : MzG} {B : MzB} {d : Nat} {mm : MzT} {M : MzM} {bu : Nat × Nat} {pc : Nat} {lv : List (Nat × Value)} {Q : MzR → MzB → MzM → Prop} {X : String} {names : List String} {ic ks cc q : Nat} {tx : String} (hd0 : decode mm.2.1 pc = .ok (.new ic, 3)) (hd3 : decode mm.2.1 (pc + 3) = .ok (.dup, 1)) (hd4 : decode mm.2.1 (pc + 4) = .ok (.ldc ks, 2)) (hd6 : decode mm.2.1 (pc + 6) = .ok (.invokespecial cc, 3)) (hd9 : decode mm.2.1 (pc + 9) = .ok (.athrow, 1))
    (hz : ∀ (A : Nat → Prop) (s : State), mz_ro mzRo G A s s.heap → vk_R mm.1.cls ks tx q s) (hcl : Cond.classLink mm.1.cls ic X ∈ mzAll) (hins : Cond.instantiable X 6 ∈ mzAll) (hini : Cond.initialized X ∈ mzAll) (hfit : Bundle.fit X = true) (hnm : ∀ n ∈ names, Bundle.fit n = true) (hat : ∀ w ∈ Bundle.ownAtoms mm.1.cls cc X names, w ∈ mzAll ∨ w = mzRU ∨ w = mzRS) (hn2 : names.length = 2) (hd6' : 6 ≤ d) (hb1 : 1 ≤ bu.1) (hb2 : 6 ≤ bu.2) (h : Q (.inr X) B M) : MzJ (mzGP G Q) G B d mm M bu pc lv [] := by
  intro p l e mc ms s m args below meth c A cells slots ls hg hex hX hl hI c1 c2
  have hg : l.stackTraces = false := hg
  have hlocks : meth.locks = false := hX.2.2.2.2.2.2.1
  refine W.newc (g := F0 m pc ls []) hX.1 hX.2.1 hX.2.2.2.2.2.1 (hX.2.2.2.2.1 _ (List.mem_cons_of_mem _ hcl)) (hX.2.2.2.2.1 _ (List.mem_cons_of_mem _ hins)) (hX.2.2.2.2.1 _ (List.mem_cons_of_mem _ hini)) rfl hd0 (show cells + 1 ≤ mc by omega) (show slots + 6 ≤ ms by omega) ?_
  intro cC kC f1 f2 f3 f4
  refine lv_dup (pc := pc + 3) (ls := ls) hX.1 hX.2.1 hd3 rfl ?_
  refine va_ldcS hX.1 hX.2.1 hX.2.2.2.2.2.1 (hz A s hI.2.2.2.2.2) hd4 ?_
  intro T hT XS
  have hatoms : ∀ w ∈ Bundle.ownAtoms mm.1.cls cc X names, w.before args s = true := by
    intro w hw
    rcases hat w hw with hw | rfl | rfl
    · exact hX.2.2.2.2.1 _ (List.mem_cons_of_mem _ hw)
    · exact mz_isRef (mz_u hI.2.2.2.2.2 (mz_fixIn 7 rfl))
    · exact mz_isRef (mz_u hI.2.2.2.2.2 (mz_fixIn 8 rfl))
  have hcell : T.heap[s.heap.size]? = some (freshCell cC kC) := by rw [hT]; simp
  obtain ⟨U, hsteps, hrun, hend, hW, hsame, ce, hce, hOwn⟩ := XS.ctorThrowS hX.1 (by rw [XS.admits.platform]; exact hg) hX.2.2.2.2.2.1 hfit hnm hatoms (fun x hx => by cases hx) f1 f2 hcell (Nat.le_refl _) (msg := .ref q) rfl (g := F0 m (pc + 3 + 1 + 2) ls [.ref q, .ref s.heap.size, .ref s.heap.size]) rfl (by rw [hX.2.2.1]; exact hl.1) rfl rfl (rest := []) rfl (by rw [hX.2.1]; exact hd6) (by rw [hX.2.1]; exact hd9) (fun x hx => by
      rw [Array.isEmpty_iff.mp hex] at hx
      cases hx) (show names.length + 3 < d by omega) (show 2 * 0 + 1 + (13 * (names.length + 1) + 42) ≤ 46 * d by omega) hlocks
  have hsame' : s.sameButNew ({ U with vm := s.vm } : State) [] mc ms := hsame.mono (by omega) (by omega)
  have hkeep : ∀ q : Nat, q < s.heap.size → U.heap[q]? = s.heap[q]? := mz_same0 (t := ({ U with vm := s.vm } : State)) hsame'
  refine ⟨U, hsteps, .threw s.heap.size, hrun, hend, ⟨⟨.inr X, B, M, h, ⟨s.heap.size, rfl, ce, hce, by rw [hOwn.vm]; rfl, by rw [hW.alike.findClass]; exact hOwn.cls, hI.2.2.2.2.1 _ (Nat.le_refl _)⟩, hI.2.1.kept (fun k q hq => hkeep _ (hI.2.1 k q hq).lt), va_K.moved hW.alike hI.1, hI.2.2.1⟩, hsame'.2.1, fun q hq _ => hkeep q hq⟩, Or.inr ⟨_, rfl, hW, hsame'⟩⟩
