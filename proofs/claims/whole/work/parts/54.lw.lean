def R_law : String := "ParcelLineLaw"
def lw_P (b : Addr) (xs : List Int32) (args : Array Value) (s : State) : Prop := args = #[.ref b] ∧ s.IntsAt b xs ∧ xs.length ≤ 2560 ∧ (Jvm.Cond.and given_1 narrow_1).before args s = true
def lw_Q (_ : Array Value) (s : State) (o : Outcome) (t : State) : Prop := o = .returned (some (.int 1)) ∧ Framed s o t [] 601024 7293034
def lw_Z (below : List Frame) (a : Array Value) (s : State) : State → Prop := fun t => ∃ o, t.status = .running ∧ Ended t below o ∧ lw_Q a s o t
/-- the law's own end, with 1 on the stack, nothing written that was there before, its room as the claim has it -/
theorem lw_ret {p : Program} {l : Launch} {e : Env} {s : State} {m : MethodId} {below : List Frame} {meth : Method} {c : Code} {b : Nat} (hx : p.tables.exec = Jvm.exec) (hb : c.code = code) (hr : meth.sig.returnType = ret) (hlocks : meth.locks = false) {pc : Nat} {H : Heap} {ls : Array Slot} (hdg : decode code pc = .ok (.ireturn, 1)) : W p l e room_1 s m #[Value.ref b] below meth c H [] 601024 7293034 (lw_Z below #[Value.ref b] s) (F0 m pc ls [.int 1]) := by
  intro T hT X
  obtain ⟨fs, hret, hrun, hended, hW, hframe⟩ := X.leave (v := some (.int 1)) (hlocks := hlocks) (fun h => by rw [hr] at h; cases h)
  have hmeth' : T.vm.method? m = some meth := X.method'
  refine ⟨T.setFrames fs, ?_, .returned (some (.int 1)), hrun, hended, rfl, ⟨_, rfl⟩, hW, hframe⟩
  jvm_step X.here [X.here.top, hx, hb, hdg, hmeth', hr, ret, narrow_b1]
  (try refine ⟨rfl, ?_⟩); (try refine ⟨rfl, ?_⟩)
  first | (intro acts; rw [hret _ acts rfl rfl rfl]) | rw [hret _ _ rfl rfl rfl]
  exact Steps.refl _
/-- what holds at the law's entry: the machine, the code, the tables' words (any of lw_tbl by 'hts w (by decide +kernel)'), the script of L ints xs at the cell b, what the Statement gives of the start (any of its parts by flat_of_before) -/
def lw_At (p : Program) (s : State) (m : MethodId) (meth : Method) (c : Code) (b L : Nat) (xs : Nat → Int32) : Prop :=
  p.tables.exec = Jvm.exec ∧ c.code = code ∧ meth.sig.returnType = ret ∧ c.maxLocals = 7 ∧ s.vm.findClass R_law = some m.cls ∧ (∀ w ∈ lw_tbl, w.before #[Value.ref b] s = true) ∧ va_X b L xs s s.heap ∧ b < s.heap.size ∧ meth.locks = false ∧ (Jvm.Cond.and given_1 narrow_1).before #[Value.ref b] s = true
def lqA (s : State) : Nat → Prop := fun q => s.heap.size ≤ q
def lqI (G : MzG) (B1 B2 : MzB) (cO : ClassId) (o : Nat) (M1 M2 : MzM) (ov : Int64) (s : State) (H : Heap) (locs : List Loc) : Prop := mzI G B1 M1 (lqA s) s H locs ∧ mzI G B2 M2 (lqA s) s H locs ∧ hlO G B1 cO o ov (lqA s) s H ∧ (∀ i ∈ mz_dm B2, mz_ad B2 i ≠ o) ∧ (∀ i ∈ mz_dm B1, ∀ j ∈ mz_dm B2, mz_ad B1 i ≠ mz_ad B2 j)
def LqS (G : MzG) (B1 B2 : MzB) (cO : ClassId) (o b L : Nat) (xs : Nat → Int32) (M1 M2 : MzM) (ov : Int64) (bu : Nat × Nat) (pc : Nat) (lv : List (Nat × Value)) (st : List Value) : Prop :=
  ∀ (p : Program) (l : Launch) (e : Env) (s : State) (m : MethodId) (below : List Frame) (meth : Method) (c : Code) (H : Heap) (locs : List Loc) (cells slots : Nat) (ls : Array Slot),
    l.stackTraces = false → lw_At p s m meth c b L xs → lv_has ls 7 lv → lqI G B1 B2 cO o M1 M2 ov s H locs → cells + bu.1 ≤ 601024 → slots + bu.2 ≤ 7293034 →
    W p l e room_1 s m #[Value.ref b] below meth c H locs cells slots (lw_Z below #[Value.ref b] s) (F0 m pc ls st)
theorem mzI_kept {G : MzG} {B : MzB} {M : MzM} {A : Nat → Prop} {s : State} {H H1 : Heap} {locs locs1 : List Loc} (hI : mzI G B M A s H locs) (hS : va_S A s.heap H1 locs1) (hk : ∀ i ∈ mz_dm B, H1[mz_ad B i]? = H[mz_ad B i]?) : mzI G B M A s H1 locs1 :=
  ⟨hI.1, hI.2.1.kept (fun k q hq => by obtain ⟨i, hi, he⟩ := mz_w_ad hq; rw [← he]; exact hk i hi), hI.2.2.1, hS, hI.2.2.2.2.1, hI.2.2.2.2.2⟩
theorem mz_lt {G : MzG} {B : MzB} {M : MzM} {A : Nat → Prop} {s : State} {H : Heap} {locs : List Loc} (hI : mzI G B M A s H locs) {i : MzL} (hi : i ∈ mz_dm B) : mz_ad B i < H.size := by
  obtain ⟨k, -, hk⟩ := mz_pl M hi
  exact (hI.2.1 k _ hk).lt
theorem mz_D_of {A : Nat → Prop} {B : MzB} {M M' : MzM} (h : va_D A (mz_w B M)) : va_D A (mz_w B M') := by
  have key : ∀ (k : Nat) (q : Nat × va_E), (mz_w B M')[k]? = some q → ∃ e, (mz_w B M)[k]? = some (q.1, e) := by
    intro k q hq
    unfold mz_w at hq ⊢
    rw [List.getElem?_map] at hq ⊢
    cases hi : (mz_dm B)[k]? with
    | none => rw [hi] at hq; cases hq
    | some i =>
      rw [hi] at hq
      cases hq
      exact ⟨_, rfl⟩
  refine ⟨fun i j p q hp hq he => ?_, fun k q hq => ?_⟩
  · obtain ⟨e1, h1⟩ := key i p hp
    obtain ⟨e2, h2⟩ := key j q hq
    exact h.1 i j _ _ h1 h2 he
  · obtain ⟨e1, h1⟩ := key k q hq
    exact h.2 k (q.1, e1) h1
section LqRules
variable {G : MzG} {B1 B2 : MzB} {cO : ClassId} {o b L : Nat} {xs : Nat → Int32} {M1 M2 : MzM} {ov : Int64} {bu : Nat × Nat} {pc : Nat} {lv : List (Nat × Value)} {st : List Value}
theorem lq_all {p : Program} {s : State} {m : MethodId} {meth : Method} {c : Code} (hC : lw_At p s m meth c b L xs) : ∀ w ∈ mzAll, w.before #[Value.ref b] s = true := fun w hw => hC.2.2.2.2.2.1 w (List.mem_filter.mp hw).1
theorem LqS.loc (lv' : List (Nat × Value)) (hs : mzSub lv lv') (h : LqS G B1 B2 cO o b L xs M1 M2 ov bu pc lv' st) : LqS G B1 B2 cO o b L xs M1 M2 ov bu pc lv st :=
  fun p l e s m below meth c H locs cells slots ls h0 hC hl hI c1 c2 => h p l e s m below meth c H locs cells slots ls h0 hC ⟨hl.1, hl.2.1, fun q hq => hl.2.2 q (mz_lk_mem (mzSub_all hs q hq))⟩ hI c1 c2
theorem LqS.bud {bu' : Nat × Nat} (h1 : bu'.1 ≤ bu.1) (h2 : bu'.2 ≤ bu.2) (h : LqS G B1 B2 cO o b L xs M1 M2 ov bu' pc lv st) : LqS G B1 B2 cO o b L xs M1 M2 ov bu pc lv st :=
  fun p l e s m below meth c H locs cells slots ls h0 hC hl hI c1 c2 => h p l e s m below meth c H locs cells slots ls h0 hC hl hI (Nat.le_trans (Nat.add_le_add_left h1 _) c1) (Nat.le_trans (Nat.add_le_add_left h2 _) c2)
theorem lq_iconst {n : Int} (v : Int32) (hd : decode code pc = .ok (.iconst n, 1)) (hv : Int32.ofInt n = v) (h : LqS G B1 B2 cO o b L xs M1 M2 ov bu (pc + 1) lv (.int v :: st)) : LqS G B1 B2 cO o b L xs M1 M2 ov bu pc lv st :=
  fun p l e s m below meth c H locs cells slots ls h0 hC hl hI c1 c2 => lv_iconst hC.1 hC.2.1 hd hv (h p l e s m below meth c H locs cells slots ls h0 hC hl hI c1 c2)
theorem lq_bipush {n : Int} (v : Int32) (hd : decode code pc = .ok (.bipush n, 2)) (hv : (Int8.ofInt n).toInt32 = v) (h : LqS G B1 B2 cO o b L xs M1 M2 ov bu (pc + 2) lv (.int v :: st)) : LqS G B1 B2 cO o b L xs M1 M2 ov bu pc lv st :=
  fun p l e s m below meth c H locs cells slots ls h0 hC hl hI c1 c2 => lv_bipush hC.1 hC.2.1 hd hv (h p l e s m below meth c H locs cells slots ls h0 hC hl hI c1 c2)
theorem lq_iadd {x y : Int32} (hd : decode code pc = .ok (.iadd, 1)) (h : LqS G B1 B2 cO o b L xs M1 M2 ov bu (pc + 1) lv (.int (x + y) :: st)) : LqS G B1 B2 cO o b L xs M1 M2 ov bu pc lv (.int y :: .int x :: st) :=
  fun p l e s m below meth c H locs cells slots ls h0 hC hl hI c1 c2 => lv_iadd hC.1 hC.2.1 hd (h p l e s m below meth c H locs cells slots ls h0 hC hl hI c1 c2)
theorem lq_isub {x y : Int32} (hd : decode code pc = .ok (.isub, 1)) (h : LqS G B1 B2 cO o b L xs M1 M2 ov bu (pc + 1) lv (.int (x - y) :: st)) : LqS G B1 B2 cO o b L xs M1 M2 ov bu pc lv (.int y :: .int x :: st) :=
  fun p l e s m below meth c H locs cells slots ls h0 hC hl hI c1 c2 => lv_isub hC.1 hC.2.1 hd (h p l e s m below meth c H locs cells slots ls h0 hC hl hI c1 c2)
theorem lq_iand {x y : Int32} (hd : decode code pc = .ok (.iand, 1)) (h : LqS G B1 B2 cO o b L xs M1 M2 ov bu (pc + 1) lv (.int (x &&& y) :: st)) : LqS G B1 B2 cO o b L xs M1 M2 ov bu pc lv (.int y :: .int x :: st) :=
  fun p l e s m below meth c H locs cells slots ls h0 hC hl hI c1 c2 => lv_iand hC.1 hC.2.1 hd (h p l e s m below meth c H locs cells slots ls h0 hC hl hI c1 c2)
theorem lq_i2l {x : Int32} (hd : decode code pc = .ok (.i2l, 1)) (h : LqS G B1 B2 cO o b L xs M1 M2 ov bu (pc + 1) lv (.long x.toInt64 :: st)) : LqS G B1 B2 cO o b L xs M1 M2 ov bu pc lv (.int x :: st) :=
  fun p l e s m below meth c H locs cells slots ls h0 hC hl hI c1 c2 => lv_i2l hC.1 hC.2.1 hd rfl (h p l e s m below meth c H locs cells slots ls h0 hC hl hI c1 c2)
theorem lq_lcmp {x y : Int64} (hd : decode code pc = .ok (.lcmp, 1)) (h : LqS G B1 B2 cO o b L xs M1 M2 ov bu (pc + 1) lv (.int (lg_cmp x y) :: st)) : LqS G B1 B2 cO o b L xs M1 M2 ov bu pc lv (.long y :: .long x :: st) :=
  fun p l e s m below meth c H locs cells slots ls h0 hC hl hI c1 c2 => W.lcmp hC.1 hC.2.1 hd (h p l e s m below meth c H locs cells slots ls h0 hC hl hI c1 c2)
theorem lq_iload {k : Nat} {x : Int32} (hd : decode code pc = .ok (.iload k, 2)) (hk : mz_lk lv k = some (.int x)) (h : LqS G B1 B2 cO o b L xs M1 M2 ov bu (pc + 2) lv (.int x :: st)) : LqS G B1 B2 cO o b L xs M1 M2 ov bu pc lv st :=
  fun p l e s m below meth c H locs cells slots ls h0 hC hl hI c1 c2 => lv_iload hC.1 hC.2.1 hd (mz_lk_at hl hk) (h p l e s m below meth c H locs cells slots ls h0 hC hl hI c1 c2)
theorem lq_aload_n {k : Fin 4} {x : Nat} (hd : decode code pc = .ok (.aload_n k, 1)) (hk : mz_lk lv k.val = some (.ref x)) (h : LqS G B1 B2 cO o b L xs M1 M2 ov bu (pc + 1) lv (.ref x :: st)) : LqS G B1 B2 cO o b L xs M1 M2 ov bu pc lv st :=
  fun p l e s m below meth c H locs cells slots ls h0 hC hl hI c1 c2 => lv_aload_n hC.1 hC.2.1 hd rfl (mz_lk_at hl hk) (h p l e s m below meth c H locs cells slots ls h0 hC hl hI c1 c2)
theorem lq_istore {k : Nat} {x : Int32} (hd : decode code pc = .ok (.istore k, 2)) (hn : k < 7) (h : LqS G B1 B2 cO o b L xs M1 M2 ov bu (pc + 2) (mz_st lv k (.int x)) st) : LqS G B1 B2 cO o b L xs M1 M2 ov bu pc lv (.int x :: st) :=
  fun p l e s m below meth c H locs cells slots ls h0 hC hl hI c1 c2 => lv_istore hC.1 hC.2.1 hd hl hn rfl (fun ls' hl' => h p l e s m below meth c H locs cells slots ls' h0 hC hl' hI c1 c2)
theorem lq_iinc {i : Nat} {n : Int} {x : Int32} (v : Int32) (hd : decode code pc = .ok (.iinc i n, 3)) (hk : mz_lk lv i = some (.int x)) (hn : i < 7) (hv : x + Int32.ofInt n = v) (h : LqS G B1 B2 cO o b L xs M1 M2 ov bu (pc + 3) (mz_st lv i (.int v)) st) : LqS G B1 B2 cO o b L xs M1 M2 ov bu pc lv st := by
  intro p l e s m below meth c H locs cells slots ls h0 hC hl hI c1 c2
  obtain ⟨k, hk'⟩ := List.getElem?_of_mem (mz_lk_mem hk)
  exact lv_iinc hC.1 hC.2.1 hd hl hk' hv hn rfl (fun ls' hl' => h p l e s m below meth c H locs cells slots ls' h0 hC hl' hI c1 c2)
theorem lq_goto {off : Int} (tgt : Nat) (hd : decode code pc = .ok (.goto off, 3)) (ht : (pc : Int) + off = (tgt : Int)) (h : LqS G B1 B2 cO o b L xs M1 M2 ov bu tgt lv st) : LqS G B1 B2 cO o b L xs M1 M2 ov bu pc lv st :=
  fun p l e s m below meth c H locs cells slots ls h0 hC hl hI c1 c2 => lv_goto hC.1 hC.2.1 hd ht (h p l e s m below meth c H locs cells slots ls h0 hC hl hI c1 c2)
theorem lq_if_eq {x : Int32} {off : Int} (tgt : Nat) (hd : decode code pc = .ok (.ifCond .eq off, 3)) (ht : (pc : Int) + off = (tgt : Int)) (kt : x = 0 → LqS G B1 B2 cO o b L xs M1 M2 ov bu tgt lv st) (kf : ¬ x = 0 → LqS G B1 B2 cO o b L xs M1 M2 ov bu (pc + 3) lv st) : LqS G B1 B2 cO o b L xs M1 M2 ov bu pc lv (.int x :: st) :=
  fun p l e s m below meth c H locs cells slots ls h0 hC hl hI c1 c2 => lv_if_eq hC.1 hC.2.1 hd ht (fun hc => kt hc p l e s m below meth c H locs cells slots ls h0 hC hl hI c1 c2) (fun hc => kf hc p l e s m below meth c H locs cells slots ls h0 hC hl hI c1 c2)
theorem lq_if_ne {x : Int32} {off : Int} (tgt : Nat) (hd : decode code pc = .ok (.ifCond .ne off, 3)) (ht : (pc : Int) + off = (tgt : Int)) (kt : ¬ x = 0 → LqS G B1 B2 cO o b L xs M1 M2 ov bu tgt lv st) (kf : x = 0 → LqS G B1 B2 cO o b L xs M1 M2 ov bu (pc + 3) lv st) : LqS G B1 B2 cO o b L xs M1 M2 ov bu pc lv (.int x :: st) :=
  fun p l e s m below meth c H locs cells slots ls h0 hC hl hI c1 c2 => lv_if_ne hC.1 hC.2.1 hd ht (fun hc => kt hc p l e s m below meth c H locs cells slots ls h0 hC hl hI c1 c2) (fun hc => kf hc p l e s m below meth c H locs cells slots ls h0 hC hl hI c1 c2)
theorem lq_icmp_eq {x y : Int32} {off : Int} (tgt : Nat) (hd : decode code pc = .ok (.if_icmp .eq off, 3)) (ht : (pc : Int) + off = (tgt : Int)) (kt : x = y → LqS G B1 B2 cO o b L xs M1 M2 ov bu tgt lv st) (kf : ¬ x = y → LqS G B1 B2 cO o b L xs M1 M2 ov bu (pc + 3) lv st) : LqS G B1 B2 cO o b L xs M1 M2 ov bu pc lv (.int y :: .int x :: st) :=
  fun p l e s m below meth c H locs cells slots ls h0 hC hl hI c1 c2 => lv_icmp_eq hC.1 hC.2.1 hd ht (fun hc => kt hc p l e s m below meth c H locs cells slots ls h0 hC hl hI c1 c2) (fun hc => kf hc p l e s m below meth c H locs cells slots ls h0 hC hl hI c1 c2)
theorem lq_icmp_gt {x y : Int32} {off : Int} (tgt : Nat) (hd : decode code pc = .ok (.if_icmp .gt off, 3)) (ht : (pc : Int) + off = (tgt : Int)) (kt : y < x → LqS G B1 B2 cO o b L xs M1 M2 ov bu tgt lv st) (kf : ¬ y < x → LqS G B1 B2 cO o b L xs M1 M2 ov bu (pc + 3) lv st) : LqS G B1 B2 cO o b L xs M1 M2 ov bu pc lv (.int y :: .int x :: st) :=
  fun p l e s m below meth c H locs cells slots ls h0 hC hl hI c1 c2 => lv_icmp_gt hC.1 hC.2.1 hd ht (fun hc => kt hc p l e s m below meth c H locs cells slots ls h0 hC hl hI c1 c2) (fun hc => kf hc p l e s m below meth c H locs cells slots ls h0 hC hl hI c1 c2)
theorem lq_nA {p : Program} {s : State} {m : MethodId} {meth : Method} {c : Code} (hC : lw_At p s m meth c b L xs) : ¬ lqA s b := Nat.not_le.mpr hC.2.2.2.2.2.2.2.1
theorem lq_iaload {i : Int32} (hd : decode code pc = .ok (.iaload, 1)) (hin : vp_in i L) (h : LqS G B1 B2 cO o b L xs M1 M2 ov bu (pc + 1) lv (.int (xs i.toNatClampNeg) :: st)) : LqS G B1 B2 cO o b L xs M1 M2 ov bu pc lv (.int i :: .ref b :: st) :=
  fun p l e s m below meth c H locs cells slots ls h0 hC hl hI c1 c2 => va_sld hC.1 hC.2.1 hC.2.2.2.2.2.2.1 hC.2.2.2.2.2.2.2.1 (lq_nA hC) hI.1.2.2.2.1 hin hd (h p l e s m below meth c H locs cells slots ls h0 hC hl hI c1 c2)
theorem lq_alen (hd : decode code pc = .ok (.arraylength, 1)) (h : LqS G B1 B2 cO o b L xs M1 M2 ov bu (pc + 1) lv (.int (Int32.ofNat L) :: st)) : LqS G B1 B2 cO o b L xs M1 M2 ov bu pc lv (.ref b :: st) :=
  fun p l e s m below meth c H locs cells slots ls h0 hC hl hI c1 c2 => va_slen hC.1 hC.2.1 hC.2.2.2.2.2.2.1 hC.2.2.2.2.2.2.2.1 (lq_nA hC) hI.1.2.2.2.1 hd (h p l e s m below meth c H locs cells slots ls h0 hC hl hI c1 c2)
theorem lq_laload (hd : decode code pc = .ok (.laload, 1)) (h : LqS G B1 B2 cO o b L xs M1 M2 ov bu (pc + 1) lv (.long ov :: st)) : LqS G B1 B2 cO o b L xs M1 M2 ov bu pc lv (.int 0 :: .ref o :: st) :=
  fun p l e s m below meth c H locs cells slots ls h0 hC hl hI c1 c2 => va_lald hC.1 hC.2.1 hI.2.2.1.2.1 hI.2.2.1.1 0 0 rfl rfl (show vp_in 0 1 by unfold vp_in; decide) hd (h p l e s m below meth c H locs cells slots ls h0 hC hl hI c1 c2)
theorem lq_tab {dflt lo hi : Int} {offs : Array Int} {len : Nat} {x : Int32} {off : Int} (tgt : Nat) (hd : decode code pc = .ok (.tableswitch dflt lo hi offs, len)) (h1 : ¬ x.toInt < lo) (h2 : ¬ hi < x.toInt) (ho : offs[(x.toInt - lo).toNat]? = some off) (ht : (pc : Int) + off = (tgt : Int)) (h : LqS G B1 B2 cO o b L xs M1 M2 ov bu tgt lv st) : LqS G B1 B2 cO o b L xs M1 M2 ov bu pc lv (.int x :: st) :=
  fun p l e s m below meth c H locs cells slots ls h0 hC hl hI c1 c2 => lv_tableIn hC.1 hC.2.1 hd h1 h2 ho ht (h p l e s m below meth c H locs cells slots ls h0 hC hl hI c1 c2)
theorem lq_ret (hd : decode code pc = .ok (.ireturn, 1)) : LqS G B1 B2 cO o b L xs M1 M2 ov bu pc lv [.int 1] := by
  intro p l e s m below meth c H locs cells slots ls h0 hC hl hI c1 c2
  refine W.widen (k := 601024) (n := 7293034) (by omega) (by omega) ?_
  intro T hT X
  have X' : Stand p l e room_1 s m #[Value.ref b] below meth c T [] 601024 7293034 := { X with same := X.same.weaken (fun y hy hlt => absurd (hI.1.2.2.2.1.2.2 y hy) (Nat.not_le.mpr hlt)) (Nat.le_refl _) (Nat.le_refl _) }
  exact lw_ret hC.1 hC.2.1 hC.2.2.1 hC.2.2.2.2.2.2.2.2.1 hd T hT X'
theorem lq_good {mm' : MzT} (h : Cond.code mm'.1 mm'.2.1 mm'.2.2.1 mm'.2.2.2 ∈ mzAll) : GoodIn mzAll (mzWs mm') := by
  intro w hw
  rcases List.mem_cons.mp hw with rfl | hw
  · exact ⟨h, mzAll_good _ h⟩
  · exact ⟨hw, mzAll_good _ hw⟩
set_option maxHeartbeats 4000000 in
theorem lq_call1 {mm' : MzT} {idx d : Nat} {As : List Value} {T0 : u_T} {N : Nat} (hi0 : (0, 0) ∈ mz_dm B1) (hcl : vwCl[0]? = some (mm'.1.cls, T0, N)) (hd : decode code pc = .ok (.invokevirtual idx, 3)) (hcs : mzCall mm' mm' As.length) (hw : Cond.methodLink R_law idx mm'.1 ∈ mzAll) (hin : Cond.instanceMethod mm'.1 ∈ mzAll) (hse : Cond.selects mm'.1.cls mm'.1 mm'.1 ∈ mzAll) (hst : (st.map fun v => v.category).sum ≤ 8) (hdd : d ≤ 12) (hml : mm'.2.2.1 ≤ 25)
    (h : MzC G B1 d mm' (.ref (mz_ad B1 (0, 0)) :: As) M1 (0, 0) (fun r B' M' => B1 = B' ∧ ∃ v, r = .inl v ∧ LqS G B1 B2 cO o b L xs M' M2 ov bu (pc + 3) lv (v.toList ++ st))) : LqS G B1 B2 cO o b L xs M1 M2 ov bu pc lv (As.reverse ++ .ref (mz_ad B1 (0, 0)) :: st) := by
  intro p l e s m below meth c H locs cells slots ls h0 hC hl hI c1 c2
  obtain ⟨q0, -, hq0⟩ := mz_pl M1 hi0
  rw [mz_ce_o (ci := 0) rfl] at hq0
  have ht := lq_all hC
  have hr := va_runV (p := p) (l := l) (e := e) (R := room_1) (s := s) (m := m) (args := #[Value.ref b]) (below := below) (meth := meth) (c := c) (H := H) (locs := locs) (cells := cells) (slots := slots) (g := F0 m pc ls (As.reverse ++ .ref (mz_ad B1 (0, 0)) :: st)) (y := mm'.1) (bytes := mm'.2.1) (maxL := mm'.2.2.1) (ret := mm'.2.2.2) (ws := mzWs mm') (rm := mzRm d 0 0) (C := mm'.1.cls) (As := As) (rest := st) (nL := 7) (Ts := mzAll) (own := R_law) (n := As.length) ⟨hC.1, hC.2.1, hC.2.2.2.1, hC.2.2.2.2.1, ht⟩ (h l H.size) ⟨callB_of As.length ht (lq_good hcs.2.1) rfl rfl rfl (ht _ hcs.1) (ht _ hw) hcs.2.2.1 ⟨show d + 1 ≤ 15 by omega, show 8 + (mm'.2.2.1 + 11) + 46 * d ≤ 596 by omega⟩, ht _ hin, ht _ hse⟩ ⟨mz_pre_blind, va_recv hI.1.1 hI.1.2.1 hcl hq0, fun U hU hW => mz_preOf hI.1 hU hW⟩ rfl rfl hl.1 rfl (lv_room hst) hd ⟨show cells + 0 ≤ 601024 by omega, show slots + 0 ≤ 7293034 by omega⟩
  intro T hT X
  obtain ⟨v, st₀, t, T', L', e0, X', hL, e1, e2, ⟨⟨r, B', M', ⟨rfl, v', rfl, hS⟩, hoc, hP', hK', hD'⟩, hz, hk⟩, stp⟩ := hr T hT X
  have hoc : Outcome.returned v = .returned v' := hoc
  cases hoc
  rw [e0] at hz hk
  have hal : s.vm.Alike t.vm := by rw [← e2]; exact X'.warmed.alike
  have hno : ∀ j ∈ mz_dm B2, ¬ va_A (mz_w B1 M1) H.size (mz_ad B2 j) := by
    intro j hj hq
    rcases hq with ⟨k, ee, hq⟩ | hq
    · obtain ⟨i, hi, he⟩ := mz_w_ad hq
      exact ((hI.2.2.2.2 i hi j hj)) he
    · exact Nat.lt_irrefl _ (Nat.lt_of_lt_of_le (mz_lt hI.2.1 hj) hq)
  have hO0 : hlO G B1 cO o ov (lqA s) s H := hI.2.2.1
  obtain ⟨g1, g2⟩ := hl_next hI.1 hO0 hP' hK' hD' hz hk hal hL
  have g3 : mzI G B2 M2 (lqA s) s t.heap (locs ++ L') := mzI_kept hI.2.1 g1.2.2.2.1 (fun j hj => hk _ (mz_lt hI.2.1 hj) (hno j hj))
  have hI' : lqI G B1 B2 cO o M' M2 ov s t.heap (locs ++ L') := ⟨g1, g3, g2, hI.2.2.2.1, hI.2.2.2.2⟩
  rw [← e1] at hI'
  obtain ⟨t2, a1, b1⟩ := hS p l e s m below meth c T'.heap (locs ++ L') (cells + 0) (slots + 0) ls h0 hC hl hI' c1 c2 T' rfl X'
  exact ⟨t2, stp t2 a1, b1⟩
set_option maxHeartbeats 4000000 in
theorem lq_call2 {mm' : MzT} {idx d : Nat} {As : List Value} {T0 : u_T} {N : Nat} (hi0 : (30, 0) ∈ mz_dm B2) (hcl : vwCl[10]? = some (mm'.1.cls, T0, N)) (hd : decode code pc = .ok (.invokevirtual idx, 3)) (hcs : mzCall mm' mm' As.length) (hw : Cond.methodLink R_law idx mm'.1 ∈ mzAll) (hin : Cond.instanceMethod mm'.1 ∈ mzAll) (hse : Cond.selects mm'.1.cls mm'.1 mm'.1 ∈ mzAll) (hst : (st.map fun v => v.category).sum ≤ 8) (hdd : d ≤ 12) (hml : mm'.2.2.1 ≤ 25)
    (h : MzC G B2 d mm' (.ref (mz_ad B2 (30, 0)) :: As) M2 (0, 0) (fun r B' M' => B2 = B' ∧ ∃ v, r = .inl v ∧ LqS G B1 B2 cO o b L xs M1 M' ov bu (pc + 3) lv (v.toList ++ st))) : LqS G B1 B2 cO o b L xs M1 M2 ov bu pc lv (As.reverse ++ .ref (mz_ad B2 (30, 0)) :: st) := by
  intro p l e s m below meth c H locs cells slots ls h0 hC hl hI c1 c2
  obtain ⟨q0, -, hq0⟩ := mz_pl M2 hi0
  rw [mz_ce_o (ci := 10) rfl] at hq0
  have ht := lq_all hC
  have hr := va_runV (p := p) (l := l) (e := e) (R := room_1) (s := s) (m := m) (args := #[Value.ref b]) (below := below) (meth := meth) (c := c) (H := H) (locs := locs) (cells := cells) (slots := slots) (g := F0 m pc ls (As.reverse ++ .ref (mz_ad B2 (30, 0)) :: st)) (y := mm'.1) (bytes := mm'.2.1) (maxL := mm'.2.2.1) (ret := mm'.2.2.2) (ws := mzWs mm') (rm := mzRm d 0 0) (C := mm'.1.cls) (As := As) (rest := st) (nL := 7) (Ts := mzAll) (own := R_law) (n := As.length) ⟨hC.1, hC.2.1, hC.2.2.2.1, hC.2.2.2.2.1, ht⟩ (h l H.size) ⟨callB_of As.length ht (lq_good hcs.2.1) rfl rfl rfl (ht _ hcs.1) (ht _ hw) hcs.2.2.1 ⟨show d + 1 ≤ 15 by omega, show 8 + (mm'.2.2.1 + 11) + 46 * d ≤ 596 by omega⟩, ht _ hin, ht _ hse⟩ ⟨mz_pre_blind, va_recv hI.2.1.1 hI.2.1.2.1 hcl hq0, fun U hU hW => mz_preOf hI.2.1 hU hW⟩ rfl rfl hl.1 rfl (lv_room hst) hd ⟨show cells + 0 ≤ 601024 by omega, show slots + 0 ≤ 7293034 by omega⟩
  intro T hT X
  obtain ⟨v, st₀, t, T', L', e0, X', hL, e1, e2, ⟨⟨r, B', M', ⟨rfl, v', rfl, hS⟩, hoc, hP', hK', hD'⟩, hz, hk⟩, stp⟩ := hr T hT X
  have hoc : Outcome.returned v = .returned v' := hoc
  cases hoc
  rw [e0] at hz hk
  have hal : s.vm.Alike t.vm := by rw [← e2]; exact X'.warmed.alike
  have hno : ∀ j ∈ mz_dm B1, ¬ va_A (mz_w B2 M2) H.size (mz_ad B1 j) := by
    intro j hj hq
    rcases hq with ⟨k, ee, hq⟩ | hq
    · obtain ⟨i, hi, he⟩ := mz_w_ad hq
      exact ((hI.2.2.2.2 j hj i hi).symm) he
    · exact Nat.lt_irrefl _ (Nat.lt_of_lt_of_le (mz_lt hI.1 hj) hq)
  have hO0 : hlO G B2 cO o ov (lqA s) s H := ⟨hI.2.2.1.1, hI.2.2.1.2.1, hI.2.2.1.2.2.1, hI.2.2.2.1, hI.2.2.1.2.2.2.2⟩
  obtain ⟨g1, g2⟩ := hl_next hI.2.1 hO0 hP' hK' hD' hz hk hal hL
  have g3 : mzI G B1 M1 (lqA s) s t.heap (locs ++ L') := mzI_kept hI.1 g1.2.2.2.1 (fun j hj => hk _ (mz_lt hI.1 hj) (hno j hj))
  have hI' : lqI G B1 B2 cO o M1 M' ov s t.heap (locs ++ L') := ⟨g3, g1, ⟨g2.1, g2.2.1, g2.2.2.1, hI.2.2.1.2.2.2.1, g2.2.2.2.2⟩, hI.2.2.2.1, hI.2.2.2.2⟩
  rw [← e1] at hI'
  obtain ⟨t2, a1, b1⟩ := hS p l e s m below meth c T'.heap (locs ++ L') (cells + 0) (slots + 0) ls h0 hC hl hI' c1 c2 T' rfl X'
  exact ⟨t2, stp t2 a1, b1⟩
set_option maxHeartbeats 4000000 in
theorem lq_callH {mm' : MzT} {hh : MzHh} {idx d : Nat} {As : List Value} {K : Int32 → MzM → Int64 → Prop} (hd : decode code pc = .ok (.invokestatic idx, 3)) (hcode : Cond.codeWith mm'.1 mm'.2.1 mm'.2.2.1 mm'.2.2.2 hh ∈ mzAll) (hini : Cond.initialized mm'.1.cls ∈ mzAll) (hw : Cond.methodLink R_law idx mm'.1 ∈ mzAll) (hin : Cond.static mm'.1 ∈ mzAll) (hy : mm'.1.cls ≠ "java/lang/invoke/MethodHandle" ∧ mm'.1.cls ≠ "java/lang/invoke/VarHandle" ∧ (parseMethodDescriptor mm'.1.desc).map (fun d => d.parameters.length) = some As.length) (hml : mm'.2.2.1 ≤ 6) (hst : (st.map fun v => v.category).sum ≤ 8) (hdd : d ≤ 12) (hb1 : 1 ≤ bu.1) (hb2 : 6 ≤ bu.2)
    (h : HlC G B1 d hh mm' As M1 cO o ov K) (kk : ∀ v M' ov', K v M' ov' → LqS G B1 B2 cO o b L xs M' M2 ov' (bu.1 - 1, bu.2 - 6) (pc + 3) lv (.int v :: st)) : LqS G B1 B2 cO o b L xs M1 M2 ov bu pc lv (As.reverse ++ st) := by
  intro p l e s m below meth c H locs cells slots ls h0 hC hl hI c1 c2 T hT X
  have ht := lq_all hC
  have hat : ∀ w ∈ mzAll, ∀ (a' : Array Value) (U : State), s.WarmedH U.vm → w.before a' U = true := fun w hw a' U hW => word_at hW (mzAll_good w hw) (ht w hw)
  obtain ⟨mk, methM, cM, hnamed, hmethM, -, -, -, -, -, -, hsigM⟩ := Cond.codeWith_spec (ht _ hcode)
  have hK : Back l room_1 p e below s #[Value.ref b] mm'.1 3 8 (PreOf room_1 1 6 (va_Pc As (hlPre G B1 M1 cO o ov H.size))) (PostOf (hlQ G B1 cO o K (hlA B1 o H.size)) 1 6 (hlA B1 o H.size)) :=
    va_backW (hh := hh) (bytes := mm'.2.1) (maxL := mm'.2.2.1) (ret := mm'.2.2.2) (h l H.size h0) hl_pre_blind rfl rfl (show d + 1 ≤ 15 by omega) (show 8 + (mm'.2.2.1 + 11) + 46 * d ≤ 596 by omega) (fun w hw => by
      rcases List.mem_cons.mp hw with rfl | hw
      · exact hat _ hcode
      · exact hat _ hw) List.mem_cons_self (fun a' U hW => hat _ hini a' U hW)
  have hstatic : methM.isStatic = true := Cond.static_spec hnamed hmethM (ht _ hin)
  obtain ⟨kP, hkP, -⟩ := className_of_methodNamed hnamed
  have hinitP : kP.init = .initialized := Cond.initialized_spec (findClass_of_methodNamed hnamed) hkP (ht _ hini)
  have hlen : As.length = methM.sig.parameters.length := by
    have h2 := hy.2.2
    rw [hsigM] at h2
    exact (Option.some.inj h2).symm
  have hdc : decode c.code pc = .ok (.invokestatic idx, 3) := by rw [hC.2.1]; exact hd
  obtain ⟨vm₁, X₁, hstep₁⟩ := X.invokestatic hC.1 hC.2.2.2.2.1 (ht _ hw) hnamed hmethM hstatic hkP hinitP ⟨hy.1, hy.2.1⟩ (g := F0 m pc ls (As.reverse ++ st)) rfl (argsL := As) (rest := st) hlen rfl hdc
  have hAA : ∀ q, hlA B1 o H.size q → lqA s q := by
    intro q hq
    rcases hq with ⟨i, hi, rfl⟩ | rfl | hq
    · obtain ⟨k, -, hk⟩ := mz_pl M1 hi
      exact hI.1.2.2.1.2 k _ hk
    · exact hI.2.2.1.2.2.1
    · exact Nat.le_trans hI.1.2.2.2.1.1 hq
  have hpre : va_Pc As (hlPre G B1 M1 cO o ov H.size) As.toArray (T.setVm vm₁) := by
    have hh0 : (T.setVm vm₁).heap = H := hT
    refine ⟨rfl, by rw [hh0], by rw [hh0]; exact hI.1.2.1, va_K.moved X₁.warmed.alike hI.1.1, hI.1.2.2.1.weaken (fun _ _ _ _ => trivial), by rw [hh0]; exact hI.2.2.1.1, va_K.moved X₁.warmed.alike hI.2.2.1.2.1, hI.2.2.1.2.2.2.1, hI.2.2.1.2.2.2.2, ?_⟩
    rw [hh0]
    exact mz_ro.narrow hAA (mz_ro.kept hI.1.2.2.2.1.2.1 (mz_ro.warm X₁.warmed hI.1.2.2.2.2.2))
  obtain ⟨v, ⟨U', l2, c2', s2⟩, X', ⟨g', mk', t, L', e1, e2, ⟨v', M', ov', hv', hKv, hP', hK', hPO, hKO, hz, hk⟩, h1, hL, h2, h3⟩, hsteps⟩ := hK m meth c ⟨T.setVm vm₁, locs, cells, slots⟩ { F0 m pc ls (As.reverse ++ st) with stack := st } (.invokestatic idx) mk As.toArray X₁ rfl (by rw [hC.2.2.2.1]; exact hl.1) hdc (lv_room hst) (X₁.named hnamed) ⟨show cells + 1 ≤ 601024 by omega, show slots + 6 ≤ 7293034 by omega, hpre⟩
  dsimp only [Pt.U, Pt.locs, Pt.cells, Pt.slots] at X' e1 e2 h1 h2 h3 hsteps hz hk
  subst h1; subst h2; subst h3
  cases hv'
  have hz : H.size ≤ t.heap.size := by rw [← hT]; exact hz
  have hk : ∀ q : Nat, q < H.size → ¬ hlA B1 o H.size q → t.heap[q]? = H[q]? := by rw [← hT] at *; exact hk
  have hal : s.vm.Alike t.vm := by rw [← e2]; exact X'.warmed.alike
  have hS' : va_S (lqA s) s.heap t.heap (locs ++ L') := ⟨Nat.le_trans hI.1.2.2.2.1.1 hz, fun q g1 g2 => by
      rw [hk q (Nat.lt_of_lt_of_le g1 hI.1.2.2.2.1.1) (fun z => g2 (hAA q z))]
      exact hI.1.2.2.2.1.2.1 q g1 g2, fun q hq => by
      rcases List.mem_append.mp hq with h9 | h9
      · exact hI.1.2.2.2.1.2.2 q h9
      · exact hAA _ (hL q h9)⟩
  have hno : ∀ j ∈ mz_dm B2, ¬ hlA B1 o H.size (mz_ad B2 j) := by
    intro j hj hq
    rcases hq with ⟨i, hi, he⟩ | he | hq
    · exact hI.2.2.2.2 i hi j hj he
    · exact hI.2.2.2.1 j hj he
    · exact Nat.lt_irrefl _ (Nat.lt_of_lt_of_le (mz_lt hI.2.1 hj) hq)
  have hD' : va_D (lqA s) (mz_w B1 M') := mz_D_of hI.1.2.2.1
  have hI' : lqI G B1 B2 cO o M' M2 ov' s t.heap (locs ++ L') := ⟨⟨va_K.moved hal.symm hK', hP', hD', hS', hI.1.2.2.2.2.1, hI.1.2.2.2.2.2⟩, mzI_kept hI.2.1 hS' (fun j hj => hk _ (mz_lt hI.2.1 hj) (hno j hj)), ⟨hPO, hI.2.2.1.2.1, hI.2.2.1.2.2.1, hI.2.2.1.2.2.2.1, Nat.lt_of_lt_of_le hI.2.2.1.2.2.2.2 hz⟩, hI.2.2.2.1, hI.2.2.2.2⟩
  rw [← e1] at hI'
  obtain ⟨t2, a1, b1⟩ := kk v' M' ov' hKv p l e s m below meth c U'.heap (locs ++ L') (cells + 1) (slots + 6) ls h0 hC hl hI' (show cells + 1 + (bu.1 - 1) ≤ 601024 by omega) (show slots + 6 + (bu.2 - 6) ≤ 7293034 by omega) U' rfl X'
  exact ⟨t2, hstep₁ _ (fun acts => by rw [doInvoke_state]; exact hsteps.trans a1), b1⟩
end LqRules
