/-! MEMORIES BY LABELS, AND ONE JUDGEMENT. A label i is a tag and a number; it has a kind (mzKd: a class or an array). B says where a label lies (mz_ad) and which labels there are (mz_dm); M what a label's ints and references are (mz_i, mz_r). MzS G B d mm M bu Q pc lv st: method mm, at pc with locals lv and stack st over that memory, comes to its end with Q. MzC: a method's contract in these words. -/
abbrev MzB : Type := (MzL → ClassId) × (MzL → Nat) × List MzL
abbrev MzM : Type := (MzL → Nat → Int32) × (MzL → Nat → Option MzL)
abbrev MzG : Type := va_G × (Nat → Nat)
abbrev MzT : Type := MethodName × ByteArray × Nat × Option FieldType
abbrev MzR : Type := Option Value ⊕ String
def mz_ca (B : MzB) (i : MzL) : ClassId := B.1 i
def mz_ad (B : MzB) (i : MzL) : Nat := B.2.1 i
def mz_dm (B : MzB) : List MzL := B.2.2
def mz_i (M : MzM) (i : MzL) (k : Nat) : Int32 := M.1 i k
def mz_r (M : MzM) (i : MzL) (k : Nat) : Option MzL := M.2 i k
def mz_si (M : MzM) (i : MzL) (k : Nat) (x : Int32) : MzM := ((fun a b => if a = i ∧ b = k then x else M.1 a b), M.2)
def mz_sr (M : MzM) (i : MzL) (k : Nat) (x : Option MzL) : MzM := (M.1, (fun a b => if a = i ∧ b = k then x else M.2 a b))
/-- a new label i, at q, with all its places 0 and null -/
def mz_nb (B : MzB) (i : MzL) (q : Nat) (cA : ClassId) : MzB := ((fun j => if j = i then cA else B.1 j), (fun j => if j = i then q else B.2.1 j), B.2.2 ++ [i])
def mz_nm (M : MzM) (i : MzL) : MzM := ((fun a b => if a = i then 0 else M.1 a b), (fun a b => if a = i then none else M.2 a b))
theorem mz_i_si (M : MzM) (i : MzL) (k : Nat) (x : Int32) (a : MzL) (b : Nat) : mz_i (mz_si M i k x) a b = if a = i ∧ b = k then x else mz_i M a b := rfl
theorem mz_i_sr (M : MzM) (i : MzL) (k : Nat) (x : Option MzL) (a : MzL) (b : Nat) : mz_i (mz_sr M i k x) a b = mz_i M a b := rfl
theorem mz_r_si (M : MzM) (i : MzL) (k : Nat) (x : Int32) (a : MzL) (b : Nat) : mz_r (mz_si M i k x) a b = mz_r M a b := rfl
theorem mz_r_sr (M : MzM) (i : MzL) (k : Nat) (x : Option MzL) (a : MzL) (b : Nat) : mz_r (mz_sr M i k x) a b = if a = i ∧ b = k then x else mz_r M a b := rfl
theorem mz_i_nm (M : MzM) (i a : MzL) (b : Nat) : mz_i (mz_nm M i) a b = if a = i then 0 else mz_i M a b := rfl
theorem mz_r_nm (M : MzM) (i a : MzL) (b : Nat) : mz_r (mz_nm M i) a b = if a = i then none else mz_r M a b := rfl
theorem mz_ad_nb (B : MzB) (i : MzL) (q : Nat) (cA : ClassId) (j : MzL) : mz_ad (mz_nb B i q cA) j = if j = i then q else mz_ad B j := rfl
theorem mz_dm_nb (B : MzB) (i : MzL) (q : Nat) (cA : ClassId) : mz_dm (mz_nb B i q cA) = mz_dm B ++ [i] := rfl
def mzRT (ty : FieldType) : Bool := match ty with
  | .object _ => true
  | .array _ => true
  | _ => false
def mz_ar (B : MzB) (x : Option MzL) : Option Nat := x.map (mz_ad B)
def mz_fv (B : MzB) (M : MzM) (i : MzL) (ci k : Nat) : Value := if mzIsR ci k = true then va_rf (mz_ar B (mz_r M i k)) else .int (mz_i M i k)
def mz_fs (B : MzB) (M : MzM) (i : MzL) (ci : Nat) : List Value := (List.range (mzN ci)).map (mz_fv B M i ci)
def mz_ce (B : MzB) (M : MzM) (i : MzL) : va_E := match mzKd i with
  | .inl ci => .inr (ci, mz_fs B M i ci)
  | .inr t => .inl (mz_ca B i, t.2, if mzRT t.1 = true then .inr (.inr (.inr (.inr (fun j => mz_ar B (mz_r M i j))))) else .inl (mz_i M i))
def mz_w (B : MzB) (M : MzM) : va_W := (mz_dm B).map (fun i => (mz_ad B i, mz_ce B M i))
def mz_tyo (B : MzB) (i : MzL) : Option (ClassId × FieldType) := match mzKd i with
  | .inl _ => none
  | .inr t => some (mz_ca B i, t.1)
def mz_ty (B : MzB) : List (ClassId × FieldType) := (mz_dm B).filterMap (mz_tyo B)
theorem mz_fs_len (B : MzB) (M : MzM) (i : MzL) (ci : Nat) : (mz_fs B M i ci).length = mzN ci := by simp [mz_fs]
theorem mz_fs_at {B : MzB} {M : MzM} {i : MzL} {ci k : Nat} (hk : k < mzN ci) : (mz_fs B M i ci)[k]? = some (mz_fv B M i ci k) := by simp [mz_fs, hk]
theorem mz_pl {B : MzB} {i : MzL} (M : MzM) (h : i ∈ mz_dm B) : ∃ q : Nat, (mz_dm B)[q]? = some i ∧ (mz_w B M)[q]? = some (mz_ad B i, mz_ce B M i) := by
  obtain ⟨q, hq⟩ := List.getElem?_of_mem h
  exact ⟨q, hq, by simp [mz_w, hq]⟩
theorem mz_tyl {B : MzB} {i : MzL} {ty : FieldType} {n : Nat} (h : i ∈ mz_dm B) (hk : mzKd i = .inr (ty, n)) : ∃ t : Nat, (mz_ty B)[t]? = some (mz_ca B i, ty) := by
  have h1 : (mz_ca B i, ty) ∈ mz_ty B := List.mem_filterMap.mpr ⟨i, h, by simp [mz_tyo, hk]⟩
  exact List.getElem?_of_mem h1
theorem mz_ce_o {B : MzB} {M : MzM} {i : MzL} {ci : Nat} (hk : mzKd i = .inl ci) : mz_ce B M i = .inr (ci, mz_fs B M i ci) := by simp [mz_ce, hk]
theorem mz_ce_i {B : MzB} {M : MzM} {i : MzL} {n : Nat} {ty : FieldType} (hk : mzKd i = .inr (ty, n)) (hr : mzRT ty = false) : mz_ce B M i = .inl (mz_ca B i, n, .inl (mz_i M i)) := by simp [mz_ce, hk, hr]
theorem mz_ce_r {B : MzB} {M : MzM} {i : MzL} {n : Nat} {ty : FieldType} (hk : mzKd i = .inr (ty, n)) (hr : mzRT ty = true) : mz_ce B M i = .inl (mz_ca B i, n, .inr (.inr (.inr (.inr (fun j => mz_ar B (mz_r M i j)))))) := by simp [mz_ce, hk, hr]
/-- one label's cell is written: the world is that of the new memory -/
theorem mz_w_set {A : Nat → Prop} {B : MzB} {M M' : MzM} {q : Nat} {i : MzL} (hD : va_D A (mz_w B M)) (hq : (mz_dm B)[q]? = some i) (hce : ∀ j, j ≠ i → mz_ce B M' j = mz_ce B M j) : (mz_w B M).set q (mz_ad B i, mz_ce B M' i) = mz_w B M' := by
  apply List.ext_getElem?
  intro n
  have hlen : q < (mz_w B M).length := by
    have := (List.getElem?_eq_some_iff.mp hq).1
    simpa [mz_w] using this
  by_cases hn : n = q
  · subst hn
    rw [List.getElem?_set_self hlen]
    simp [mz_w, hq]
  · rw [List.getElem?_set_ne (fun e => hn e.symm)]
    simp only [mz_w, List.getElem?_map]
    cases hj : (mz_dm B)[n]? with
    | none => rfl
    | some j =>
      have hji : j ≠ i := by
        intro e
        subst e
        exact hn (hD.1 n q (mz_ad B j, mz_ce B M j) (mz_ad B j, mz_ce B M j) (by simp [mz_w, hj]) (by simp [mz_w, hq]) rfl)
      simp [hce j hji]
theorem mz_fs_eq {B B' : MzB} {M M' : MzM} {j : MzL} (e1 : mz_i M' j = mz_i M j) (e2 : ∀ b, mz_ar B' (mz_r M' j b) = mz_ar B (mz_r M j b)) (ci : Nat) : mz_fs B' M' j ci = mz_fs B M j ci := by
  unfold mz_fs
  apply List.map_congr_left
  intro b _
  simp only [mz_fv, e1, e2]
theorem mz_ce_eq {B B' : MzB} {M M' : MzM} {j : MzL} (e0 : mz_ca B' j = mz_ca B j) (e1 : mz_i M' j = mz_i M j) (e2 : ∀ b, mz_ar B' (mz_r M' j b) = mz_ar B (mz_r M j b)) : mz_ce B' M' j = mz_ce B M j := by
  unfold mz_ce
  cases mzKd j with
  | inl ci => simp only [mz_fs_eq e1 e2]
  | inr t => simp only [e0, e1, e2]
theorem mz_ce_si {B : MzB} {M : MzM} {i j : MzL} {k : Nat} {x : Int32} (h : j ≠ i) : mz_ce B (mz_si M i k x) j = mz_ce B M j :=
  mz_ce_eq rfl (by funext b; simp [mz_i_si, h]) (fun _ => rfl)
theorem mz_ce_sr {B : MzB} {M : MzM} {i j : MzL} {k : Nat} {x : Option MzL} (h : j ≠ i) : mz_ce B (mz_sr M i k x) j = mz_ce B M j :=
  mz_ce_eq rfl rfl (fun b => by simp [mz_r_sr, h])
theorem mz_fs_si {B : MzB} {M : MzM} {i : MzL} {ci k : Nat} {x : Int32} (hR : mzIsR ci k = false) : (mz_fs B M i ci).set k (.int x) = mz_fs B (mz_si M i k x) i ci := by
  apply List.ext_getElem?
  intro n
  by_cases hk : n < mzN ci
  · rw [mz_fs_at hk]
    by_cases hn : n = k
    · subst hn
      rw [List.getElem?_set_self (by rw [mz_fs_len]; exact hk)]
      simp [mz_fv, hR, mz_i_si]
    · rw [List.getElem?_set_ne (fun e => hn e.symm), mz_fs_at hk]
      simp [mz_fv, mz_i_si, mz_r_si, hn]
  · rw [List.getElem?_eq_none (by rw [List.length_set, mz_fs_len]; omega), List.getElem?_eq_none (by rw [mz_fs_len]; omega)]
theorem mz_fs_sr {B : MzB} {M : MzM} {i : MzL} {ci k : Nat} {x : Option MzL} (hR : mzIsR ci k = true) : (mz_fs B M i ci).set k (va_rf (mz_ar B x)) = mz_fs B (mz_sr M i k x) i ci := by
  apply List.ext_getElem?
  intro n
  by_cases hk : n < mzN ci
  · rw [mz_fs_at hk]
    by_cases hn : n = k
    · subst hn
      rw [List.getElem?_set_self (by rw [mz_fs_len]; exact hk)]
      simp [mz_fv, hR, mz_r_sr]
    · rw [List.getElem?_set_ne (fun e => hn e.symm), mz_fs_at hk]
      simp [mz_fv, mz_i_sr, mz_r_sr, hn]
  · rw [List.getElem?_eq_none (by rw [List.length_set, mz_fs_len]; omega), List.getElem?_eq_none (by rw [mz_fs_len]; omega)]
/-- every reference leads to a label that is there -/
def mzWf (B : MzB) (M : MzM) : Prop := ∀ i k l, mz_r M i k = some l → l ∈ mz_dm B
theorem mz_ar_nb {B : MzB} {i : MzL} {q : Nat} {cA : ClassId} {x : Option MzL} (h : ∀ l, x = some l → l ≠ i) : mz_ar (mz_nb B i q cA) x = mz_ar B x := by
  cases x with
  | none => rfl
  | some l => simp [mz_ar, mz_ad_nb, h l rfl]
theorem mz_w_nb {B : MzB} {M : MzM} {i : MzL} {q : Nat} {cA : ClassId} (hwf : mzWf B M) (hf : i ∉ mz_dm B) : mz_w (mz_nb B i q cA) (mz_nm M i) = mz_w B M ++ [(q, mz_ce (mz_nb B i q cA) (mz_nm M i) i)] := by
  unfold mz_w
  rw [mz_dm_nb, List.map_append]
  congr 1
  · apply List.map_congr_left
    intro j hj
    have hne : j ≠ i := fun e => hf (e ▸ hj)
    rw [mz_ad_nb, if_neg hne, mz_ce_eq (B := B) (M := M) (by simp [mz_ca, mz_nb, hne]) (by funext b; simp [mz_i_nm, hne]) (fun b => by
      rw [mz_r_nm, if_neg hne]
      exact mz_ar_nb (fun l hl e => hf (e ▸ hwf j b l hl)))]
  · simp [mz_ad_nb]
theorem mz_fm {α β : Type} {f g : α → Option β} : ∀ (l : List α), (∀ a ∈ l, f a = g a) → l.filterMap f = l.filterMap g
  | [], _ => rfl
  | a :: r, h => by
    rw [List.filterMap_cons, List.filterMap_cons, h a List.mem_cons_self, mz_fm r (fun b hb => h b (List.mem_cons_of_mem _ hb))]
theorem mz_ty_nb {B : MzB} {i : MzL} {q : Nat} {cA : ClassId} (hf : i ∉ mz_dm B) : mz_ty (mz_nb B i q cA) = mz_ty B ++ (mz_tyo (mz_nb B i q cA) i).toList := by
  have e : (mz_dm B).filterMap (mz_tyo (mz_nb B i q cA)) = (mz_dm B).filterMap (mz_tyo B) := by
    apply mz_fm
    intro j hj
    have hne : j ≠ i := fun e => hf (e ▸ hj)
    unfold mz_tyo
    cases mzKd j with
    | inl _ => rfl
    | inr t => simp [mz_ca, mz_nb, hne]
  unfold mz_ty
  rw [mz_dm_nb, List.filterMap_append, e]
  congr 1
/-! what nobody writes: facts that stay true while the machine runs -/
def mzStays (f : MzF) : Prop := (∀ ra A (u U : State) H, u.WarmedH U.vm → f ra A u H → f ra A U H) ∧ (∀ ra A (u U : State) H, u.vm = U.vm → f ra A u H → f ra A U H) ∧ (∀ ra A (U : State) (H H1 : Heap), (∀ a : Nat, a < H.size → ¬ A a → H1[a]? = H[a]?) → f ra A U H → f ra A U H1) ∧ (∀ ra (A B : Nat → Prop) (U : State) H, (∀ q, B q → A q) → f ra A U H → f ra B U H)
def mz_ro (F : List MzF) (G : MzG) (A : Nat → Prop) (U : State) (H : Heap) : Prop := ∀ f ∈ F, mzStays f ∧ f G.2 A U H
theorem mz_ro.warm {F : List MzF} {G : MzG} {A : Nat → Prop} {u U : State} {H : Heap} (hW : u.WarmedH U.vm) (h : mz_ro F G A u H) : mz_ro F G A U H := fun f hf => ⟨(h f hf).1, (h f hf).1.1 _ _ u U _ hW (h f hf).2⟩
theorem mz_ro.same {F : List MzF} {G : MzG} {A : Nat → Prop} {u U : State} {H : Heap} (hv : u.vm = U.vm) (h : mz_ro F G A u H) : mz_ro F G A U H := fun f hf => ⟨(h f hf).1, (h f hf).1.2.1 _ _ u U _ hv (h f hf).2⟩
theorem mz_ro.kept {F : List MzF} {G : MzG} {A : Nat → Prop} {U : State} {H H1 : Heap} (hq : ∀ a : Nat, a < H.size → ¬ A a → H1[a]? = H[a]?) (h : mz_ro F G A U H) : mz_ro F G A U H1 := fun f hf => ⟨(h f hf).1, (h f hf).1.2.2.1 _ _ U _ _ hq (h f hf).2⟩
theorem mz_ro.narrow {F : List MzF} {G : MzG} {A B : Nat → Prop} {U : State} {H : Heap} (hAB : ∀ q, B q → A q) (h : mz_ro F G A U H) : mz_ro F G B U H := fun f hf => ⟨(h f hf).1, (h f hf).1.2.2.2 _ _ _ U _ hAB (h f hf).2⟩
/-! the judgements -/
def mzWs (mm : MzT) : List Cond := Cond.code mm.1 mm.2.1 mm.2.2.1 mm.2.2.2 :: mzAll
def mzRm (d mc ms : Nat) : Room := { frames := d, cells := mc, slots := ms, locals := 46 * d }
def mz_end (G : MzG) (B : MzB) (M : MzM) (A : Nat → Prop) (t : State) : Prop := va_P G.1 vwCl (mz_w B M) t.heap ∧ va_K G.1 vwCl (mz_ty B) t ∧ va_D A (mz_w B M)
def mzThrown (X : String) (a : Nat) (A : Nat → Prop) (t : State) : Prop := ∃ cell : Cell, t.heap[a]? = some cell ∧ cell.vm.isStatics = false ∧ t.vm.findClass X = some cell.cls ∧ A a
def mzOc (r : MzR) (oc : Outcome) (A : Nat → Prop) (t : State) : Prop := match r with
  | .inl v => oc = .returned v
  | .inr X => ∃ a : Nat, oc = .threw a ∧ mzThrown X a A t
def mzQ (G : MzG) (Q : MzR → MzB → MzM → Prop) (A : Nat → Prop) : Array Value → State → Outcome → State → Prop := fun _ st oc t => (∃ (r : MzR) (B : MzB) (M : MzM), Q r B M ∧ mzOc r oc A t ∧ mz_end G B M A t) ∧ va_F A st t
def mzX (mm : MzT) (p : Program) (s : State) (m : MethodId) (args : Array Value) (meth : Method) (c : Code) : Prop :=
  p.tables.exec = Jvm.exec ∧ c.code = mm.2.1 ∧ c.maxLocals = mm.2.2.1 ∧ meth.sig.returnType = mm.2.2.2 ∧ (∀ w ∈ mzWs mm, w.before args s = true) ∧ s.vm.findClass mm.1.cls = some m.cls ∧ meth.locks = false ∧ meth.name = mm.1.name
def mzI (G : MzG) (B : MzB) (M : MzM) (A : Nat → Prop) (s : State) (H : Heap) (locs : List Loc) : Prop :=
  va_K G.1 vwCl (mz_ty B) s ∧ va_P G.1 vwCl (mz_w B M) H ∧ va_D A (mz_w B M) ∧ va_S A s.heap H locs ∧ (∀ q, s.heap.size ≤ q → A q) ∧ mz_ro mzRo G A s s.heap
def MzS (G : MzG) (B : MzB) (d : Nat) (mm : MzT) (M : MzM) (bu : Nat × Nat) (Q : MzR → MzB → MzM → Prop) (pc : Nat) (lv : List (Nat × Value)) (st : List Value) : Prop :=
  ∀ (p : Program) (l : Launch) (e : Env) (mc ms : Nat) (s : State) (m : MethodId) (args : Array Value) (below : List Frame) (meth : Method) (c : Code) (A : Nat → Prop) (H : Heap) (locs : List Loc) (cells slots : Nat) (ls : Array Slot),
    mzX mm p s m args meth c → lv_has ls mm.2.2.1 lv → mzI G B M A s H locs → cells + bu.1 ≤ mc → slots + bu.2 ≤ ms →
    W p l e (mzRm d mc ms) s m args below meth c H locs cells slots (MQ below (mzQ G Q A) args s mc ms A) (F0 m pc ls st)
def mzPre (G : MzG) (B : MzB) (M : MzM) (sz : Nat) (U : State) : Prop := U.heap.size = sz ∧ va_P G.1 vwCl (mz_w B M) U.heap ∧ va_K G.1 vwCl (mz_ty B) U ∧ va_D (fun _ => True) (mz_w B M) ∧ mz_ro mzRo G (va_A (mz_w B M) sz) U U.heap
def MzC (G : MzG) (B : MzB) (d : Nat) (mm : MzT) (av : List Value) (M : MzM) (bu : Nat × Nat) (Q : MzR → MzB → MzM → Prop) : Prop :=
  ∀ (l : Launch) (sz : Nat), Met l mm.1 (mzWs mm) (mzRm d bu.1 bu.2) (va_Pc av (mzPre G B M sz)) (mzQ G Q (va_A (mz_w B M) sz)) bu.1 bu.2 (va_A (mz_w B M) sz)
theorem mz_pre_blind {G : MzG} {B : MzB} {M : MzM} {sz : Nat} {av : List Value} : FrameBlind (va_Pc av (mzPre G B M sz)) := by
  intro a U g mk h
  obtain ⟨h0, h1, h2, h3, h4, h5⟩ := h
  exact ⟨h0, h1, h2, va_K.moved (u := U) (U := U.calling g mk a) (Vm.Alike.refl U.vm) h3, h4, mz_ro.same (u := U) (U := U.calling g mk a) rfl h5⟩
set_option maxHeartbeats 4000000 in
theorem MzC.of {G : MzG} {B : MzB} {d : Nat} {mm : MzT} {av : List Value} {M : MzM} {bu : Nat × Nat} {Q : MzR → MzB → MzM → Prop} (hpl : plainName mm.1.cls = true) (hlen : (lg_sl av).length ≤ mm.2.2.1) (h : MzS G B d mm M bu Q 0 (lv_args 0 av) []) : MzC G B d mm av M bu Q := by
  intro l sz
  refine Met.ofW (cc := mm.2.1) (maxL := mm.2.2.1) (ret := mm.2.2.2) hpl rfl ?_
  intro p e s m args below meth c s₁ B0 hml hv
  obtain ⟨rfl, hsz, hP, hK, hD0, hR⟩ := hv
  have hl := lv_entry av (n := mm.2.2.1) hlen
  rw [lg_entry_eq]
  subst hsz
  exact h p l e bu.1 bu.2 s m _ below meth c (va_A (mz_w B M) s.heap.size) s.heap [] 0 0 _ ⟨B0.exec, B0.bytes, hml, B0.returns, atoms_spec (ws := mzWs mm) B0.pre, findClass_of_methodNamed B0.named, B0.notSynchronized, (name_of_methodNamed B0.named B0.method).1⟩ hl ⟨hK, hP, hD0.self, va_S.rf, fun q hq => Or.inr hq, hR⟩ (by omega) (by omega)
theorem MzC.mono {G : MzG} {B : MzB} {d : Nat} {mm : MzT} {av : List Value} {M : MzM} {bu : Nat × Nat} {Q Q' : MzR → MzB → MzM → Prop} (h : MzC G B d mm av M bu Q) (hQ : ∀ r B' M', Q r B' M' → Q' r B' M') : MzC G B d mm av M bu Q' := by
  intro l sz
  refine MetFree.mono (h l sz) (fun _ _ h => h) (fun _ _ _ _ _ h => h) ?_
  intro a st o t _ h1
  obtain ⟨⟨⟨r, B', M', q1, q2, q3⟩, q4⟩, q5⟩ := h1
  exact ⟨⟨⟨r, B', M', hQ r B' M' q1, q2, q3⟩, q4⟩, q5⟩
theorem MzS.mono {G : MzG} {B : MzB} {d : Nat} {mm : MzT} {M : MzM} {bu : Nat × Nat} {Q Q' : MzR → MzB → MzM → Prop} {pc : Nat} {lv : List (Nat × Value)} {st : List Value} (h : MzS G B d mm M bu Q pc lv st) (hQ : ∀ r B' M', Q r B' M' → Q' r B' M') : MzS G B d mm M bu Q' pc lv st := by
  intro p l e mc ms s m args below meth c A H locs cells slots ls hX hl hI c1 c2 T hT X
  obtain ⟨t, a1, o, b1, b2, b3, b4⟩ := h p l e mc ms s m args below meth c A H locs cells slots ls hX hl hI c1 c2 T hT X
  obtain ⟨⟨r, B', M', q1, q2, q3⟩, q4⟩ := b3
  exact ⟨t, a1, o, b1, b2, ⟨⟨r, B', M', hQ r B' M' q1, q2, q3⟩, q4⟩, b4⟩
def mz_lk (lv : List (Nat × Value)) (i : Nat) : Option Value := match lv with
  | [] => none
  | (j, v) :: r => if j = i then some v else mz_lk r i
theorem mz_lk_mem : ∀ {lv : List (Nat × Value)} {i : Nat} {v : Value}, mz_lk lv i = some v → (i, v) ∈ lv
  | [], _, _, h => by cases h
  | (j, w) :: r, i, v, h => by
    unfold mz_lk at h
    by_cases hj : j = i
    · rw [if_pos hj] at h
      cases h
      rw [hj]
      exact List.mem_cons_self
    · rw [if_neg hj] at h
      exact List.mem_cons_of_mem _ (mz_lk_mem h)
theorem mz_lk_at {ls : Array Slot} {nL : Nat} {lv : List (Nat × Value)} {i : Nat} {v : Value} (h : lv_has ls nL lv) (hk : mz_lk lv i = some v) : ls[i]? = some (.val v) := h.2.2 (i, v) (mz_lk_mem hk)
def mz_st (lv : List (Nat × Value)) (i : Nat) (v : Value) : List (Nat × Value) := (i, v) :: lv.filter (fun q => !(q.1 == i) && !(q.1 + 1 == i && q.2.category == 2))
/-- fewer locals known, or in another order -/
theorem MzS.locals {G : MzG} {B : MzB} {d : Nat} {mm : MzT} {M : MzM} {bu : Nat × Nat} {Q : MzR → MzB → MzM → Prop} {pc : Nat} {lv : List (Nat × Value)} {st : List Value} (lv' : List (Nat × Value)) (hs : ∀ q ∈ lv', mz_lk lv q.1 = some q.2) (h : MzS G B d mm M bu Q pc lv' st) : MzS G B d mm M bu Q pc lv st :=
  fun p l e mc ms s m args below meth c A H locs cells slots ls hX hl hI c1 c2 => h p l e mc ms s m args below meth c A H locs cells slots ls hX ⟨hl.1, hl.2.1, fun q hq => hl.2.2 q (mz_lk_mem (hs q hq))⟩ hI c1 c2
/-- what a class's objects are -/
def mzCl (ci : Nat) (C : String) (T : u_T) (N : Nat) (ty : Nat → FieldType) : Prop := vwCl[ci]? = some (C, T, N) ∧ (∀ w ∈ u_ws C T N, w ∈ mzAll) ∧ (∀ k, k < N → parseFieldDescriptor (T k).2.2.1 = some (ty k)) ∧ (∀ a, a < N → ∀ b, b < N → a ≠ b → (T a).2.1 ≠ (T b).2.1) ∧ mzN ci = N ∧ ∀ k, k < N → mzIsR ci k = mzRT (ty k)
section MzRules
variable {G : MzG} {B : MzB} {d : Nat} {mm : MzT} {M : MzM} {bu : Nat × Nat} {Q : MzR → MzB → MzM → Prop} {pc : Nat} {lv : List (Nat × Value)} {st : List Value}
theorem mz_iconst {n : Int} (v : Int32) (hd : decode mm.2.1 pc = .ok (.iconst n, 1)) (hv : Int32.ofInt n = v) (h : MzS G B d mm M bu Q (pc + 1) lv (.int v :: st)) : MzS G B d mm M bu Q pc lv st :=
  fun p l e mc ms s m args below meth c A H locs cells slots ls hX hl hI c1 c2 => lv_iconst hX.1 hX.2.1 hd hv (h p l e mc ms s m args below meth c A H locs cells slots ls hX hl hI c1 c2)
theorem mz_bipush {n : Int} (v : Int32) (hd : decode mm.2.1 pc = .ok (.bipush n, 2)) (hv : (Int8.ofInt n).toInt32 = v) (h : MzS G B d mm M bu Q (pc + 2) lv (.int v :: st)) : MzS G B d mm M bu Q pc lv st :=
  fun p l e mc ms s m args below meth c A H locs cells slots ls hX hl hI c1 c2 => lv_bipush hX.1 hX.2.1 hd hv (h p l e mc ms s m args below meth c A H locs cells slots ls hX hl hI c1 c2)
theorem mz_sipush {n : Int} (v : Int32) (hd : decode mm.2.1 pc = .ok (.sipush n, 3)) (hv : (Int16.ofInt n).toInt32 = v) (h : MzS G B d mm M bu Q (pc + 3) lv (.int v :: st)) : MzS G B d mm M bu Q pc lv st :=
  fun p l e mc ms s m args below meth c A H locs cells slots ls hX hl hI c1 c2 => lv_sipush hX.1 hX.2.1 hd hv (h p l e mc ms s m args below meth c A H locs cells slots ls hX hl hI c1 c2)
theorem mz_iadd {x y : Int32} (hd : decode mm.2.1 pc = .ok (.iadd, 1))  (h : MzS G B d mm M bu Q (pc + 1) lv (.int (x + y) :: st)) : MzS G B d mm M bu Q pc lv (.int y :: .int x :: st) :=
  fun p l e mc ms s m args below meth c A H locs cells slots ls hX hl hI c1 c2 => lv_iadd hX.1 hX.2.1 hd (h p l e mc ms s m args below meth c A H locs cells slots ls hX hl hI c1 c2)
theorem mz_isub {x y : Int32} (hd : decode mm.2.1 pc = .ok (.isub, 1))  (h : MzS G B d mm M bu Q (pc + 1) lv (.int (x - y) :: st)) : MzS G B d mm M bu Q pc lv (.int y :: .int x :: st) :=
  fun p l e mc ms s m args below meth c A H locs cells slots ls hX hl hI c1 c2 => lv_isub hX.1 hX.2.1 hd (h p l e mc ms s m args below meth c A H locs cells slots ls hX hl hI c1 c2)
theorem mz_imul {x y : Int32} (hd : decode mm.2.1 pc = .ok (.imul, 1))  (h : MzS G B d mm M bu Q (pc + 1) lv (.int (x * y) :: st)) : MzS G B d mm M bu Q pc lv (.int y :: .int x :: st) :=
  fun p l e mc ms s m args below meth c A H locs cells slots ls hX hl hI c1 c2 => lv_imul hX.1 hX.2.1 hd (h p l e mc ms s m args below meth c A H locs cells slots ls hX hl hI c1 c2)
theorem mz_iand {x y : Int32} (hd : decode mm.2.1 pc = .ok (.iand, 1))  (h : MzS G B d mm M bu Q (pc + 1) lv (.int (x &&& y) :: st)) : MzS G B d mm M bu Q pc lv (.int y :: .int x :: st) :=
  fun p l e mc ms s m args below meth c A H locs cells slots ls hX hl hI c1 c2 => lv_iand hX.1 hX.2.1 hd (h p l e mc ms s m args below meth c A H locs cells slots ls hX hl hI c1 c2)
theorem mz_ior {x y : Int32} (hd : decode mm.2.1 pc = .ok (.ior, 1))  (h : MzS G B d mm M bu Q (pc + 1) lv (.int (x ||| y) :: st)) : MzS G B d mm M bu Q pc lv (.int y :: .int x :: st) :=
  fun p l e mc ms s m args below meth c A H locs cells slots ls hX hl hI c1 c2 => lv_ior hX.1 hX.2.1 hd (h p l e mc ms s m args below meth c A H locs cells slots ls hX hl hI c1 c2)
theorem mz_ixor {x y : Int32} (hd : decode mm.2.1 pc = .ok (.ixor, 1))  (h : MzS G B d mm M bu Q (pc + 1) lv (.int (x ^^^ y) :: st)) : MzS G B d mm M bu Q pc lv (.int y :: .int x :: st) :=
  fun p l e mc ms s m args below meth c A H locs cells slots ls hX hl hI c1 c2 => lv_ixor hX.1 hX.2.1 hd (h p l e mc ms s m args below meth c A H locs cells slots ls hX hl hI c1 c2)
theorem mz_idiv {x y : Int32} (hd : decode mm.2.1 pc = .ok (.idiv, 1)) (hne : ¬ y = 0) (h : MzS G B d mm M bu Q (pc + 1) lv (.int (x / y) :: st)) : MzS G B d mm M bu Q pc lv (.int y :: .int x :: st) :=
  fun p l e mc ms s m args below meth c A H locs cells slots ls hX hl hI c1 c2 => lv_idiv hX.1 hX.2.1 hd hne (h p l e mc ms s m args below meth c A H locs cells slots ls hX hl hI c1 c2)
theorem mz_irem {x y : Int32} (hd : decode mm.2.1 pc = .ok (.irem, 1)) (hne : ¬ y = 0) (h : MzS G B d mm M bu Q (pc + 1) lv (.int (x - x / y * y) :: st)) : MzS G B d mm M bu Q pc lv (.int y :: .int x :: st) :=
  fun p l e mc ms s m args below meth c A H locs cells slots ls hX hl hI c1 c2 => lv_irem hX.1 hX.2.1 hd hne (h p l e mc ms s m args below meth c A H locs cells slots ls hX hl hI c1 c2)
theorem mz_ishr {x y : Int32} (hd : decode mm.2.1 pc = .ok (.ishr, 1))  (h : MzS G B d mm M bu Q (pc + 1) lv (.int (x >>> (y &&& 31)) :: st)) : MzS G B d mm M bu Q pc lv (.int y :: .int x :: st) :=
  fun p l e mc ms s m args below meth c A H locs cells slots ls hX hl hI c1 c2 => lv_ishr hX.1 hX.2.1 hd (h p l e mc ms s m args below meth c A H locs cells slots ls hX hl hI c1 c2)
theorem mz_i2c {x : Int32} (hd : decode mm.2.1 pc = .ok (.i2c, 1))  (h : MzS G B d mm M bu Q (pc + 1) lv (.int (x.toUInt32 % 65536).toInt32 :: st)) : MzS G B d mm M bu Q pc lv (.int x :: st) :=
  fun p l e mc ms s m args below meth c A H locs cells slots ls hX hl hI c1 c2 => lv_i2c hX.1 hX.2.1 hd rfl (h p l e mc ms s m args below meth c A H locs cells slots ls hX hl hI c1 c2)
theorem mz_dup {v : Value} (hd : decode mm.2.1 pc = .ok (.dup, 1)) (hv : v.category = 1) (h : MzS G B d mm M bu Q (pc + 1) lv (v :: v :: st)) : MzS G B d mm M bu Q pc lv (v :: st) :=
  fun p l e mc ms s m args below meth c A H locs cells slots ls hX hl hI c1 c2 => lv_dup hX.1 hX.2.1 hd hv (h p l e mc ms s m args below meth c A H locs cells slots ls hX hl hI c1 c2)
theorem mz_pop {v : Value} (hd : decode mm.2.1 pc = .ok (.pop, 1)) (hv : v.category = 1) (h : MzS G B d mm M bu Q (pc + 1) lv st) : MzS G B d mm M bu Q pc lv (v :: st) :=
  fun p l e mc ms s m args below meth c A H locs cells slots ls hX hl hI c1 c2 => lv_pop hX.1 hX.2.1 hd hv (h p l e mc ms s m args below meth c A H locs cells slots ls hX hl hI c1 c2)
theorem mz_dup2 {v w : Value} (hd : decode mm.2.1 pc = .ok (.dup2, 1)) (hv : v.category = 1) (hw : w.category = 1) (h : MzS G B d mm M bu Q (pc + 1) lv (v :: w :: v :: w :: st)) : MzS G B d mm M bu Q pc lv (v :: w :: st) :=
  fun p l e mc ms s m args below meth c A H locs cells slots ls hX hl hI c1 c2 => lv_dup2_11 hX.1 hX.2.1 hd hv hw (h p l e mc ms s m args below meth c A H locs cells slots ls hX hl hI c1 c2)
theorem mz_null (hd : decode mm.2.1 pc = .ok (.aconst_null, 1))  (h : MzS G B d mm M bu Q (pc + 1) lv (.null :: st)) : MzS G B d mm M bu Q pc lv st :=
  fun p l e mc ms s m args below meth c A H locs cells slots ls hX hl hI c1 c2 => lv_null hX.1 hX.2.1 hd (h p l e mc ms s m args below meth c A H locs cells slots ls hX hl hI c1 c2)
theorem mz_iload_n {k : Fin 4} {x : Int32} (hd : decode mm.2.1 pc = .ok (.iload_n k, 1)) (hk : mz_lk lv k.val = some (.int x)) (h : MzS G B d mm M bu Q (pc + 1) lv ((.int x) :: st)) : MzS G B d mm M bu Q pc lv st :=
  fun p l e mc ms s m args below meth c A H locs cells slots ls hX hl hI c1 c2 => lv_iload_n hX.1 hX.2.1 hd rfl (mz_lk_at hl hk) (h p l e mc ms s m args below meth c A H locs cells slots ls hX hl hI c1 c2)
theorem mz_iload {k : Nat} {x : Int32} (hd : decode mm.2.1 pc = .ok (.iload k, 2)) (hk : mz_lk lv k = some (.int x)) (h : MzS G B d mm M bu Q (pc + 2) lv ((.int x) :: st)) : MzS G B d mm M bu Q pc lv st :=
  fun p l e mc ms s m args below meth c A H locs cells slots ls hX hl hI c1 c2 => lv_iload hX.1 hX.2.1 hd (mz_lk_at hl hk) (h p l e mc ms s m args below meth c A H locs cells slots ls hX hl hI c1 c2)
theorem mz_aload_n {k : Fin 4} {x : Nat} (hd : decode mm.2.1 pc = .ok (.aload_n k, 1)) (hk : mz_lk lv k.val = some (.ref x)) (h : MzS G B d mm M bu Q (pc + 1) lv ((.ref x) :: st)) : MzS G B d mm M bu Q pc lv st :=
  fun p l e mc ms s m args below meth c A H locs cells slots ls hX hl hI c1 c2 => lv_aload_n hX.1 hX.2.1 hd rfl (mz_lk_at hl hk) (h p l e mc ms s m args below meth c A H locs cells slots ls hX hl hI c1 c2)
theorem mz_aload {k : Nat} {x : Nat} (hd : decode mm.2.1 pc = .ok (.aload k, 2)) (hk : mz_lk lv k = some (.ref x)) (h : MzS G B d mm M bu Q (pc + 2) lv ((.ref x) :: st)) : MzS G B d mm M bu Q pc lv st :=
  fun p l e mc ms s m args below meth c A H locs cells slots ls hX hl hI c1 c2 => lv_aload hX.1 hX.2.1 hd (mz_lk_at hl hk) (h p l e mc ms s m args below meth c A H locs cells slots ls hX hl hI c1 c2)
theorem mz_aload_nN {k : Fin 4} (hd : decode mm.2.1 pc = .ok (.aload_n k, 1)) (hk : mz_lk lv k.val = some .null) (h : MzS G B d mm M bu Q (pc + 1) lv (.null :: st)) : MzS G B d mm M bu Q pc lv st :=
  fun p l e mc ms s m args below meth c A H locs cells slots ls hX hl hI c1 c2 => lv_aload_nN hX.1 hX.2.1 hd rfl (mz_lk_at hl hk) (h p l e mc ms s m args below meth c A H locs cells slots ls hX hl hI c1 c2)
theorem mz_aloadN {k : Nat} (hd : decode mm.2.1 pc = .ok (.aload k, 2)) (hk : mz_lk lv k = some .null) (h : MzS G B d mm M bu Q (pc + 2) lv (.null :: st)) : MzS G B d mm M bu Q pc lv st :=
  fun p l e mc ms s m args below meth c A H locs cells slots ls hX hl hI c1 c2 => lv_aloadN hX.1 hX.2.1 hd (mz_lk_at hl hk) (h p l e mc ms s m args below meth c A H locs cells slots ls hX hl hI c1 c2)
theorem mz_istore_n {k : Fin 4} {x : Int32} (hd : decode mm.2.1 pc = .ok (.istore_n k, 1)) (hn : k.val < mm.2.2.1) (h : MzS G B d mm M bu Q (pc + 1) (mz_st lv k.val (.int x)) st) : MzS G B d mm M bu Q pc lv ((.int x) :: st) :=
  fun p l e mc ms s m args below meth c A H locs cells slots ls hX hl hI c1 c2 => lv_istore_n hX.1 hX.2.1 hd rfl hl hn rfl (fun ls' hl' => h p l e mc ms s m args below meth c A H locs cells slots ls' hX hl' hI c1 c2)
theorem mz_istore {k : Nat} {x : Int32} (hd : decode mm.2.1 pc = .ok (.istore k, 2)) (hn : k < mm.2.2.1) (h : MzS G B d mm M bu Q (pc + 2) (mz_st lv k (.int x)) st) : MzS G B d mm M bu Q pc lv ((.int x) :: st) :=
  fun p l e mc ms s m args below meth c A H locs cells slots ls hX hl hI c1 c2 => lv_istore hX.1 hX.2.1 hd hl hn rfl (fun ls' hl' => h p l e mc ms s m args below meth c A H locs cells slots ls' hX hl' hI c1 c2)
theorem mz_astore_n {k : Fin 4} {x : Nat} (hd : decode mm.2.1 pc = .ok (.astore_n k, 1)) (hn : k.val < mm.2.2.1) (h : MzS G B d mm M bu Q (pc + 1) (mz_st lv k.val (.ref x)) st) : MzS G B d mm M bu Q pc lv ((.ref x) :: st) :=
  fun p l e mc ms s m args below meth c A H locs cells slots ls hX hl hI c1 c2 => lv_astore_n hX.1 hX.2.1 hd rfl hl hn rfl (fun ls' hl' => h p l e mc ms s m args below meth c A H locs cells slots ls' hX hl' hI c1 c2)
theorem mz_astore {k : Nat} {x : Nat} (hd : decode mm.2.1 pc = .ok (.astore k, 2)) (hn : k < mm.2.2.1) (h : MzS G B d mm M bu Q (pc + 2) (mz_st lv k (.ref x)) st) : MzS G B d mm M bu Q pc lv ((.ref x) :: st) :=
  fun p l e mc ms s m args below meth c A H locs cells slots ls hX hl hI c1 c2 => lv_astore hX.1 hX.2.1 hd hl hn rfl (fun ls' hl' => h p l e mc ms s m args below meth c A H locs cells slots ls' hX hl' hI c1 c2)
theorem mz_astore_nN {k : Fin 4} (hd : decode mm.2.1 pc = .ok (.astore_n k, 1)) (hn : k.val < mm.2.2.1) (h : MzS G B d mm M bu Q (pc + 1) (mz_st lv k.val .null) st) : MzS G B d mm M bu Q pc lv (.null :: st) :=
  fun p l e mc ms s m args below meth c A H locs cells slots ls hX hl hI c1 c2 => lv_astore_nN hX.1 hX.2.1 hd rfl hl hn rfl (fun ls' hl' => h p l e mc ms s m args below meth c A H locs cells slots ls' hX hl' hI c1 c2)
theorem mz_astoreN {k : Nat} (hd : decode mm.2.1 pc = .ok (.astore k, 2)) (hn : k < mm.2.2.1) (h : MzS G B d mm M bu Q (pc + 2) (mz_st lv k .null) st) : MzS G B d mm M bu Q pc lv (.null :: st) :=
  fun p l e mc ms s m args below meth c A H locs cells slots ls hX hl hI c1 c2 => lv_astoreN hX.1 hX.2.1 hd hl hn rfl (fun ls' hl' => h p l e mc ms s m args below meth c A H locs cells slots ls' hX hl' hI c1 c2)
theorem mz_iinc {i : Nat} {n : Int} {x : Int32} (v : Int32) (hd : decode mm.2.1 pc = .ok (.iinc i n, 3)) (hk : mz_lk lv i = some (.int x)) (hn : i < mm.2.2.1) (hv : x + Int32.ofInt n = v) (h : MzS G B d mm M bu Q (pc + 3) (mz_st lv i (.int v)) st) : MzS G B d mm M bu Q pc lv st := by
  intro p l e mc ms s m args below meth c A H locs cells slots ls hX hl hI c1 c2
  obtain ⟨k, hk'⟩ := List.getElem?_of_mem (mz_lk_mem hk)
  exact lv_iinc hX.1 hX.2.1 hd hl hk' hv hn rfl (fun ls' hl' => h p l e mc ms s m args below meth c A H locs cells slots ls' hX hl' hI c1 c2)
theorem mz_if_eq {x : Int32} {off : Int} (tgt : Nat) (hd : decode mm.2.1 pc = .ok (.ifCond .eq off, 3)) (ht : (pc : Int) + off = (tgt : Int)) (kt : x = 0 → MzS G B d mm M bu Q tgt lv st) (kf : ¬ x = 0 → MzS G B d mm M bu Q (pc + 3) lv st) : MzS G B d mm M bu Q pc lv (.int x :: st) :=
  fun p l e mc ms s m args below meth c A H locs cells slots ls hX hl hI c1 c2 => lv_if_eq hX.1 hX.2.1 hd ht (fun hc => kt hc p l e mc ms s m args below meth c A H locs cells slots ls hX hl hI c1 c2) (fun hc => kf hc p l e mc ms s m args below meth c A H locs cells slots ls hX hl hI c1 c2)
theorem mz_if_lt {x : Int32} {off : Int} (tgt : Nat) (hd : decode mm.2.1 pc = .ok (.ifCond .lt off, 3)) (ht : (pc : Int) + off = (tgt : Int)) (kt : x < 0 → MzS G B d mm M bu Q tgt lv st) (kf : ¬ x < 0 → MzS G B d mm M bu Q (pc + 3) lv st) : MzS G B d mm M bu Q pc lv (.int x :: st) :=
  fun p l e mc ms s m args below meth c A H locs cells slots ls hX hl hI c1 c2 => lv_if_lt hX.1 hX.2.1 hd ht (fun hc => kt hc p l e mc ms s m args below meth c A H locs cells slots ls hX hl hI c1 c2) (fun hc => kf hc p l e mc ms s m args below meth c A H locs cells slots ls hX hl hI c1 c2)
theorem mz_if_ge {x : Int32} {off : Int} (tgt : Nat) (hd : decode mm.2.1 pc = .ok (.ifCond .ge off, 3)) (ht : (pc : Int) + off = (tgt : Int)) (kt : 0 ≤ x → MzS G B d mm M bu Q tgt lv st) (kf : ¬ 0 ≤ x → MzS G B d mm M bu Q (pc + 3) lv st) : MzS G B d mm M bu Q pc lv (.int x :: st) :=
  fun p l e mc ms s m args below meth c A H locs cells slots ls hX hl hI c1 c2 => lv_if_ge hX.1 hX.2.1 hd ht (fun hc => kt hc p l e mc ms s m args below meth c A H locs cells slots ls hX hl hI c1 c2) (fun hc => kf hc p l e mc ms s m args below meth c A H locs cells slots ls hX hl hI c1 c2)
theorem mz_if_gt {x : Int32} {off : Int} (tgt : Nat) (hd : decode mm.2.1 pc = .ok (.ifCond .gt off, 3)) (ht : (pc : Int) + off = (tgt : Int)) (kt : 0 < x → MzS G B d mm M bu Q tgt lv st) (kf : ¬ 0 < x → MzS G B d mm M bu Q (pc + 3) lv st) : MzS G B d mm M bu Q pc lv (.int x :: st) :=
  fun p l e mc ms s m args below meth c A H locs cells slots ls hX hl hI c1 c2 => lv_if_gt hX.1 hX.2.1 hd ht (fun hc => kt hc p l e mc ms s m args below meth c A H locs cells slots ls hX hl hI c1 c2) (fun hc => kf hc p l e mc ms s m args below meth c A H locs cells slots ls hX hl hI c1 c2)
theorem mz_if_le {x : Int32} {off : Int} (tgt : Nat) (hd : decode mm.2.1 pc = .ok (.ifCond .le off, 3)) (ht : (pc : Int) + off = (tgt : Int)) (kt : x ≤ 0 → MzS G B d mm M bu Q tgt lv st) (kf : ¬ x ≤ 0 → MzS G B d mm M bu Q (pc + 3) lv st) : MzS G B d mm M bu Q pc lv (.int x :: st) :=
  fun p l e mc ms s m args below meth c A H locs cells slots ls hX hl hI c1 c2 => lv_if_le hX.1 hX.2.1 hd ht (fun hc => kt hc p l e mc ms s m args below meth c A H locs cells slots ls hX hl hI c1 c2) (fun hc => kf hc p l e mc ms s m args below meth c A H locs cells slots ls hX hl hI c1 c2)
theorem mz_if_ne {x : Int32} {off : Int} (tgt : Nat) (hd : decode mm.2.1 pc = .ok (.ifCond .ne off, 3)) (ht : (pc : Int) + off = (tgt : Int)) (kt : ¬ x = 0 → MzS G B d mm M bu Q tgt lv st) (kf : x = 0 → MzS G B d mm M bu Q (pc + 3) lv st) : MzS G B d mm M bu Q pc lv (.int x :: st) :=
  fun p l e mc ms s m args below meth c A H locs cells slots ls hX hl hI c1 c2 => lv_if_ne hX.1 hX.2.1 hd ht (fun hc => kt hc p l e mc ms s m args below meth c A H locs cells slots ls hX hl hI c1 c2) (fun hc => kf hc p l e mc ms s m args below meth c A H locs cells slots ls hX hl hI c1 c2)
theorem mz_icmp_eq {x y : Int32} {off : Int} (tgt : Nat) (hd : decode mm.2.1 pc = .ok (.if_icmp .eq off, 3)) (ht : (pc : Int) + off = (tgt : Int)) (kt : x = y → MzS G B d mm M bu Q tgt lv st) (kf : ¬ x = y → MzS G B d mm M bu Q (pc + 3) lv st) : MzS G B d mm M bu Q pc lv (.int y :: .int x :: st) :=
  fun p l e mc ms s m args below meth c A H locs cells slots ls hX hl hI c1 c2 => lv_icmp_eq hX.1 hX.2.1 hd ht (fun hc => kt hc p l e mc ms s m args below meth c A H locs cells slots ls hX hl hI c1 c2) (fun hc => kf hc p l e mc ms s m args below meth c A H locs cells slots ls hX hl hI c1 c2)
theorem mz_icmp_lt {x y : Int32} {off : Int} (tgt : Nat) (hd : decode mm.2.1 pc = .ok (.if_icmp .lt off, 3)) (ht : (pc : Int) + off = (tgt : Int)) (kt : x < y → MzS G B d mm M bu Q tgt lv st) (kf : ¬ x < y → MzS G B d mm M bu Q (pc + 3) lv st) : MzS G B d mm M bu Q pc lv (.int y :: .int x :: st) :=
  fun p l e mc ms s m args below meth c A H locs cells slots ls hX hl hI c1 c2 => lv_icmp_lt hX.1 hX.2.1 hd ht (fun hc => kt hc p l e mc ms s m args below meth c A H locs cells slots ls hX hl hI c1 c2) (fun hc => kf hc p l e mc ms s m args below meth c A H locs cells slots ls hX hl hI c1 c2)
theorem mz_icmp_ge {x y : Int32} {off : Int} (tgt : Nat) (hd : decode mm.2.1 pc = .ok (.if_icmp .ge off, 3)) (ht : (pc : Int) + off = (tgt : Int)) (kt : y ≤ x → MzS G B d mm M bu Q tgt lv st) (kf : ¬ y ≤ x → MzS G B d mm M bu Q (pc + 3) lv st) : MzS G B d mm M bu Q pc lv (.int y :: .int x :: st) :=
  fun p l e mc ms s m args below meth c A H locs cells slots ls hX hl hI c1 c2 => lv_icmp_ge hX.1 hX.2.1 hd ht (fun hc => kt hc p l e mc ms s m args below meth c A H locs cells slots ls hX hl hI c1 c2) (fun hc => kf hc p l e mc ms s m args below meth c A H locs cells slots ls hX hl hI c1 c2)
theorem mz_icmp_gt {x y : Int32} {off : Int} (tgt : Nat) (hd : decode mm.2.1 pc = .ok (.if_icmp .gt off, 3)) (ht : (pc : Int) + off = (tgt : Int)) (kt : y < x → MzS G B d mm M bu Q tgt lv st) (kf : ¬ y < x → MzS G B d mm M bu Q (pc + 3) lv st) : MzS G B d mm M bu Q pc lv (.int y :: .int x :: st) :=
  fun p l e mc ms s m args below meth c A H locs cells slots ls hX hl hI c1 c2 => lv_icmp_gt hX.1 hX.2.1 hd ht (fun hc => kt hc p l e mc ms s m args below meth c A H locs cells slots ls hX hl hI c1 c2) (fun hc => kf hc p l e mc ms s m args below meth c A H locs cells slots ls hX hl hI c1 c2)
theorem mz_icmp_le {x y : Int32} {off : Int} (tgt : Nat) (hd : decode mm.2.1 pc = .ok (.if_icmp .le off, 3)) (ht : (pc : Int) + off = (tgt : Int)) (kt : x ≤ y → MzS G B d mm M bu Q tgt lv st) (kf : ¬ x ≤ y → MzS G B d mm M bu Q (pc + 3) lv st) : MzS G B d mm M bu Q pc lv (.int y :: .int x :: st) :=
  fun p l e mc ms s m args below meth c A H locs cells slots ls hX hl hI c1 c2 => lv_icmp_le hX.1 hX.2.1 hd ht (fun hc => kt hc p l e mc ms s m args below meth c A H locs cells slots ls hX hl hI c1 c2) (fun hc => kf hc p l e mc ms s m args below meth c A H locs cells slots ls hX hl hI c1 c2)
theorem mz_icmp_ne {x y : Int32} {off : Int} (tgt : Nat) (hd : decode mm.2.1 pc = .ok (.if_icmp .ne off, 3)) (ht : (pc : Int) + off = (tgt : Int)) (kt : ¬ x = y → MzS G B d mm M bu Q tgt lv st) (kf : x = y → MzS G B d mm M bu Q (pc + 3) lv st) : MzS G B d mm M bu Q pc lv (.int y :: .int x :: st) :=
  fun p l e mc ms s m args below meth c A H locs cells slots ls hX hl hI c1 c2 => lv_icmp_ne hX.1 hX.2.1 hd ht (fun hc => kt hc p l e mc ms s m args below meth c A H locs cells slots ls hX hl hI c1 c2) (fun hc => kf hc p l e mc ms s m args below meth c A H locs cells slots ls hX hl hI c1 c2)
theorem mz_acmp_eq {rx ry : Option Nat} {off : Int} (tgt : Nat) (hd : decode mm.2.1 pc = .ok (.if_acmp .eq off, 3)) (ht : (pc : Int) + off = (tgt : Int)) (kt : rx = ry → MzS G B d mm M bu Q tgt lv st) (kf : ¬ rx = ry → MzS G B d mm M bu Q (pc + 3) lv st) : MzS G B d mm M bu Q pc lv (va_rf ry :: va_rf rx :: st) :=
  fun p l e mc ms s m args below meth c A H locs cells slots ls hX hl hI c1 c2 => lv_acmp_eq hX.1 hX.2.1 hd ht (fun hc => kt hc p l e mc ms s m args below meth c A H locs cells slots ls hX hl hI c1 c2) (fun hc => kf hc p l e mc ms s m args below meth c A H locs cells slots ls hX hl hI c1 c2)
theorem mz_acmp_ne {rx ry : Option Nat} {off : Int} (tgt : Nat) (hd : decode mm.2.1 pc = .ok (.if_acmp .ne off, 3)) (ht : (pc : Int) + off = (tgt : Int)) (kt : ¬ rx = ry → MzS G B d mm M bu Q tgt lv st) (kf : rx = ry → MzS G B d mm M bu Q (pc + 3) lv st) : MzS G B d mm M bu Q pc lv (va_rf ry :: va_rf rx :: st) :=
  fun p l e mc ms s m args below meth c A H locs cells slots ls hX hl hI c1 c2 => lv_acmp_ne hX.1 hX.2.1 hd ht (fun hc => kt hc p l e mc ms s m args below meth c A H locs cells slots ls hX hl hI c1 c2) (fun hc => kf hc p l e mc ms s m args below meth c A H locs cells slots ls hX hl hI c1 c2)
theorem mz_goto {off : Int} (tgt : Nat) (hd : decode mm.2.1 pc = .ok (.goto off, 3)) (ht : (pc : Int) + off = (tgt : Int)) (h : MzS G B d mm M bu Q tgt lv st) : MzS G B d mm M bu Q pc lv st :=
  fun p l e mc ms s m args below meth c A H locs cells slots ls hX hl hI c1 c2 => lv_goto hX.1 hX.2.1 hd ht (h p l e mc ms s m args below meth c A H locs cells slots ls hX hl hI c1 c2)
theorem mz_ifnull {x : Nat} {off : Int} (hd : decode mm.2.1 pc = .ok (.ifnull off, 3)) (h : MzS G B d mm M bu Q (pc + 3) lv st) : MzS G B d mm M bu Q pc lv (.ref x :: st) :=
  fun p l e mc ms s m args below meth c A H locs cells slots ls hX hl hI c1 c2 => lv_ifnull hX.1 hX.2.1 hd (h p l e mc ms s m args below meth c A H locs cells slots ls hX hl hI c1 c2)
theorem mz_ifnullN {off : Int} (tgt : Nat) (hd : decode mm.2.1 pc = .ok (.ifnull off, 3)) (ht : (pc : Int) + off = (tgt : Int)) (h : MzS G B d mm M bu Q tgt lv st) : MzS G B d mm M bu Q pc lv (.null :: st) :=
  fun p l e mc ms s m args below meth c A H locs cells slots ls hX hl hI c1 c2 => lv_ifnullN hX.1 hX.2.1 hd ht (h p l e mc ms s m args below meth c A H locs cells slots ls hX hl hI c1 c2)
theorem mz_ifnonnull {x : Nat} {off : Int} (tgt : Nat) (hd : decode mm.2.1 pc = .ok (.ifnonnull off, 3)) (ht : (pc : Int) + off = (tgt : Int)) (h : MzS G B d mm M bu Q tgt lv st) : MzS G B d mm M bu Q pc lv (.ref x :: st) :=
  fun p l e mc ms s m args below meth c A H locs cells slots ls hX hl hI c1 c2 => lv_ifnonnull hX.1 hX.2.1 hd ht (h p l e mc ms s m args below meth c A H locs cells slots ls hX hl hI c1 c2)
theorem mz_ifnonnullN {off : Int} (hd : decode mm.2.1 pc = .ok (.ifnonnull off, 3)) (h : MzS G B d mm M bu Q (pc + 3) lv st) : MzS G B d mm M bu Q pc lv (.null :: st) :=
  fun p l e mc ms s m args below meth c A H locs cells slots ls hX hl hI c1 c2 => lv_ifnonnullN hX.1 hX.2.1 hd (h p l e mc ms s m args below meth c A H locs cells slots ls hX hl hI c1 c2)
theorem mz_tabOut {dflt lo hi : Int} {offs : Array Int} {len : Nat} {x : Int32} (tgt : Nat) (hd : decode mm.2.1 pc = .ok (.tableswitch dflt lo hi offs, len)) (hx : x.toInt < lo ∨ hi < x.toInt) (ht : (pc : Int) + dflt = (tgt : Int)) (h : MzS G B d mm M bu Q tgt lv st) : MzS G B d mm M bu Q pc lv (.int x :: st) :=
  fun p l e mc ms s m args below meth c A H locs cells slots ls hX hl hI c1 c2 => lv_tableOut hX.1 hX.2.1 hd hx ht (h p l e mc ms s m args below meth c A H locs cells slots ls hX hl hI c1 c2)
theorem mz_tabIn {dflt lo hi : Int} {offs : Array Int} {len : Nat} {x : Int32} {off : Int} (tgt : Nat) (hd : decode mm.2.1 pc = .ok (.tableswitch dflt lo hi offs, len)) (h1 : ¬ x.toInt < lo) (h2 : ¬ hi < x.toInt) (ho : offs[(x.toInt - lo).toNat]? = some off) (ht : (pc : Int) + off = (tgt : Int)) (h : MzS G B d mm M bu Q tgt lv st) : MzS G B d mm M bu Q pc lv (.int x :: st) :=
  fun p l e mc ms s m args below meth c A H locs cells slots ls hX hl hI c1 c2 => lv_tableIn hX.1 hX.2.1 hd h1 h2 ho ht (h p l e mc ms s m args below meth c A H locs cells slots ls hX hl hI c1 c2)
theorem mz_ldc {idx : Nat} {v : Int32} (hd : decode mm.2.1 pc = .ok (.ldc idx, 2)) (hw : Jvm.Cond.constant mm.1.cls idx v ∈ mzAll) (h : MzS G B d mm M bu Q (pc + 2) lv (.int v :: st)) : MzS G B d mm M bu Q pc lv st :=
  fun p l e mc ms s m args below meth c A H locs cells slots ls hX hl hI c1 c2 => lv_ldc hX.1 hX.2.1 hX.2.2.2.2.2.1 (hX.2.2.2.2.1 _ (List.mem_cons_of_mem _ hw)) hd (h p l e mc ms s m args below meth c A H locs cells slots ls hX hl hI c1 c2)
theorem mz_ldcw {idx : Nat} {v : Int32} (hd : decode mm.2.1 pc = .ok (.ldc_w idx, 3)) (hw : Jvm.Cond.constant mm.1.cls idx v ∈ mzAll) (h : MzS G B d mm M bu Q (pc + 3) lv (.int v :: st)) : MzS G B d mm M bu Q pc lv st :=
  fun p l e mc ms s m args below meth c A H locs cells slots ls hX hl hI c1 c2 => lv_ldcw hX.1 hX.2.1 hX.2.2.2.2.2.1 (hX.2.2.2.2.1 _ (List.mem_cons_of_mem _ hw)) hd (h p l e mc ms s m args below meth c A H locs cells slots ls hX hl hI c1 c2)
theorem mz_iret {v : Int32} (ty : FieldType) (hd : decode mm.2.1 pc = .ok (.ireturn, 1)) (hr : mm.2.2.2 = some ty) (hn : narrow ty (.int v) = .int v) (h : Q (.inl (some (.int v))) B M) : MzS G B d mm M bu Q pc lv [.int v] := by
  intro p l e mc ms s m args below meth c A H locs cells slots ls hX hl hI c1 c2
  have hlocks : meth.locks = false := hX.2.2.2.2.2.2.1
  refine W.widen (k := mc) (n := ms) (by omega) (by omega) ?_
  exact W.zret hX.1 hX.2.1 (hX.2.2.2.1.trans hr) hn (fun t ht hW => ⟨⟨_, B, M, h, rfl, by rw [ht]; exact hI.2.1, va_K.moved hW.alike hI.1, hI.2.2.1⟩, hI.2.2.2.1.F ht⟩) hI.2.2.2.1.2.2 hd hlocks
theorem mz_vret (hd : decode mm.2.1 pc = .ok (.return_, 1)) (hr : mm.2.2.2 = none) (h : Q (.inl none) B M) : MzS G B d mm M bu Q pc lv [] := by
  intro p l e mc ms s m args below meth c A H locs cells slots ls hX hl hI c1 c2
  have hlocks : meth.locks = false := hX.2.2.2.2.2.2.1
  refine W.widen (k := mc) (n := ms) (by omega) (by omega) ?_
  exact W.vret hX.1 hX.2.1 (hX.2.2.2.1.trans hr) (fun t ht hW => ⟨⟨_, B, M, h, rfl, by rw [ht]; exact hI.2.1, va_K.moved hW.alike hI.1, hI.2.2.1⟩, hI.2.2.2.1.F ht⟩) hI.2.2.2.1.2.2 hd hlocks
theorem mz_aret {v : Value} (rt : FieldType) (hd : decode mm.2.1 pc = .ok (.areturn, 1)) (hr : mm.2.2.2 = some rt) (hrt : (∃ n, rt = .object n) ∨ ∃ t, rt = .array t) (hv : v = .null ∨ ∃ a, v = .ref a) (h : Q (.inl (some v)) B M) : MzS G B d mm M bu Q pc lv [v] := by
  intro p l e mc ms s m args below meth c A H locs cells slots ls hX hl hI c1 c2
  have hlocks : meth.locks = false := hX.2.2.2.2.2.2.1
  refine W.widen (k := mc) (n := ms) (by omega) (by omega) ?_
  exact W.aret hX.1 hX.2.1 (hX.2.2.2.1.trans hr) hrt hv (fun t ht hW => ⟨⟨_, B, M, h, rfl, by rw [ht]; exact hI.2.1, va_K.moved hW.alike hI.1, hI.2.2.1⟩, hI.2.2.2.1.F ht⟩) hI.2.2.2.1.2.2 hd hlocks
theorem mz_getV {i : MzL} {ci k idx N : Nat} {C : String} {T : u_T} {ty : Nat → FieldType} (hC : mzCl ci C T N ty) (hd : decode mm.2.1 pc = .ok (.getfield idx, 3)) (hk : k < N) (hw : Cond.fieldLink mm.1.cls idx (T k).1 (T k).2.1 (T k).2.2.1 ∈ mzAll) (hi : i ∈ mz_dm B) (hkd : mzKd i = .inl ci) (h : MzS G B d mm M bu Q (pc + 3) lv (mz_fv B M i ci k :: st)) : MzS G B d mm M bu Q pc lv (.ref (mz_ad B i) :: st) := by
  intro p l e mc ms s m args below meth c A H locs cells slots ls hX hl hI c1 c2
  obtain ⟨q0, -, hq0⟩ := mz_pl M hi
  rw [mz_ce_o hkd] at hq0
  exact va_get (D := G.1) (cl := vwCl) (ci := ci) (C := C) (T := T) (N := N) (Ts := mzWs mm) hX.1 hX.2.1 hX.2.2.2.2.1 (fun w hw => List.mem_cons_of_mem _ (hC.2.1 w hw)) hX.2.2.2.2.2.1 hI.1 hI.2.1 q0 hq0 hC.1 k hk (hX.2.2.2.2.1 _ (List.mem_cons_of_mem _ hw)) (fun _ h9 => h9) (mz_fs_at (by rw [hC.2.2.2.2.1]; exact hk)) hd (h p l e mc ms s m args below meth c A H locs cells slots ls hX hl hI c1 c2)
theorem mz_getI {i : MzL} {ci k idx N : Nat} {C : String} {T : u_T} {ty : Nat → FieldType} (hC : mzCl ci C T N ty) (hd : decode mm.2.1 pc = .ok (.getfield idx, 3)) (hk : k < N) (hw : Cond.fieldLink mm.1.cls idx (T k).1 (T k).2.1 (T k).2.2.1 ∈ mzAll) (hR : mzIsR ci k = false) (hi : i ∈ mz_dm B) (hkd : mzKd i = .inl ci) (h : MzS G B d mm M bu Q (pc + 3) lv (.int (mz_i M i k) :: st)) : MzS G B d mm M bu Q pc lv (.ref (mz_ad B i) :: st) :=
  mz_getV hC hd hk hw hi hkd (by simpa [mz_fv, hR] using h)
theorem mz_getR {i : MzL} {ci k idx N : Nat} {C : String} {T : u_T} {ty : Nat → FieldType} (hC : mzCl ci C T N ty) (hd : decode mm.2.1 pc = .ok (.getfield idx, 3)) (hk : k < N) (hw : Cond.fieldLink mm.1.cls idx (T k).1 (T k).2.1 (T k).2.2.1 ∈ mzAll) (hR : mzIsR ci k = true) (hi : i ∈ mz_dm B) (hkd : mzKd i = .inl ci) {a : MzL} (hr : mz_r M i k = some a) (h : MzS G B d mm M bu Q (pc + 3) lv (.ref (mz_ad B a) :: st)) : MzS G B d mm M bu Q pc lv (.ref (mz_ad B i) :: st) :=
  mz_getV hC hd hk hw hi hkd (by simpa [mz_fv, hR, hr, va_rf, mz_ar] using h)
theorem mz_getO {i : MzL} {ci k idx N : Nat} {C : String} {T : u_T} {ty : Nat → FieldType} (hC : mzCl ci C T N ty) (hd : decode mm.2.1 pc = .ok (.getfield idx, 3)) (hk : k < N) (hw : Cond.fieldLink mm.1.cls idx (T k).1 (T k).2.1 (T k).2.2.1 ∈ mzAll) (hR : mzIsR ci k = true) (hi : i ∈ mz_dm B) (hkd : mzKd i = .inl ci) (hr : mz_r M i k = none) (h : MzS G B d mm M bu Q (pc + 3) lv (.null :: st)) : MzS G B d mm M bu Q pc lv (.ref (mz_ad B i) :: st) :=
  mz_getV hC hd hk hw hi hkd (by simpa [mz_fv, hR, hr, va_rf, mz_ar] using h)
theorem mz_putI {i : MzL} {ci k idx N : Nat} {C : String} {T : u_T} {ty : Nat → FieldType} {x : Int32} (hC : mzCl ci C T N ty) (hd : decode mm.2.1 pc = .ok (.putfield idx, 3)) (hk : k < N) (hw : Cond.fieldLink mm.1.cls idx (T k).1 (T k).2.1 (T k).2.2.1 ∈ mzAll) (hR : mzIsR ci k = false) (hfin : (T k).2.2.2 = false) (hn : narrow (ty k) (.int x) = (.int x)) (hf : fits (ty k) (.int x) = true) (hi : i ∈ mz_dm B) (hkd : mzKd i = .inl ci) (h : MzS G B d mm (mz_si M i k x) bu Q (pc + 3) lv st) : MzS G B d mm M bu Q pc lv ((.int x) :: .ref (mz_ad B i) :: st) := by
  intro p l e mc ms s m args below meth c A H locs cells slots ls hX hl hI c1 c2
  obtain ⟨q0, hq, hq0⟩ := mz_pl M hi
  rw [mz_ce_o hkd] at hq0
  refine va_put (D := G.1) (cl := vwCl) (ci := ci) (C := C) (T := T) (N := N) (Ts := mzWs mm) (ty := ty k) hX.1 hX.2.1 hX.2.2.2.2.1 (fun w hw => List.mem_cons_of_mem _ (hC.2.1 w hw)) ty hC.2.2.1 hC.2.2.2.1 hX.2.2.2.2.2.1 hI.1 hI.2.1 hI.2.2.1 hI.2.2.2.1 q0 hq0 hC.1 k hk (hX.2.2.2.2.1 _ (List.mem_cons_of_mem _ hw)) (fun _ h9 => h9) hfin (hC.2.2.1 k hk) hn hf (by rw [mz_fs_len, hC.2.2.2.2.1]; exact hk) hd (fun H1 locs1 hP1 hD1 hS1 => ?_)
  have e1 : (mz_w B M).set q0 (mz_ad B i, .inr (ci, (mz_fs B M i ci).set k (.int x))) = mz_w B (mz_si M i k x) := by
    rw [mz_fs_si hR, ← mz_ce_o (B := B) (M := (mz_si M i k x)) hkd]
    exact mz_w_set hI.2.2.1 hq (fun j hj => mz_ce_si hj)
  rw [e1] at hP1 hD1
  exact h p l e mc ms s m args below meth c A H1 locs1 cells slots ls hX hl ⟨hI.1, hP1, hD1, hS1, hI.2.2.2.2.1, hI.2.2.2.2.2⟩ c1 c2
theorem mz_putR {i : MzL} {ci k idx N : Nat} {C : String} {T : u_T} {ty : Nat → FieldType} {x : Option MzL} (hC : mzCl ci C T N ty) (hd : decode mm.2.1 pc = .ok (.putfield idx, 3)) (hk : k < N) (hw : Cond.fieldLink mm.1.cls idx (T k).1 (T k).2.1 (T k).2.2.1 ∈ mzAll) (hR : mzIsR ci k = true) (hfin : (T k).2.2.2 = false) (hn : narrow (ty k) (va_rf (mz_ar B x)) = (va_rf (mz_ar B x))) (hf : fits (ty k) (va_rf (mz_ar B x)) = true) (hi : i ∈ mz_dm B) (hkd : mzKd i = .inl ci) (h : MzS G B d mm (mz_sr M i k x) bu Q (pc + 3) lv st) : MzS G B d mm M bu Q pc lv ((va_rf (mz_ar B x)) :: .ref (mz_ad B i) :: st) := by
  intro p l e mc ms s m args below meth c A H locs cells slots ls hX hl hI c1 c2
  obtain ⟨q0, hq, hq0⟩ := mz_pl M hi
  rw [mz_ce_o hkd] at hq0
  refine va_put (D := G.1) (cl := vwCl) (ci := ci) (C := C) (T := T) (N := N) (Ts := mzWs mm) (ty := ty k) hX.1 hX.2.1 hX.2.2.2.2.1 (fun w hw => List.mem_cons_of_mem _ (hC.2.1 w hw)) ty hC.2.2.1 hC.2.2.2.1 hX.2.2.2.2.2.1 hI.1 hI.2.1 hI.2.2.1 hI.2.2.2.1 q0 hq0 hC.1 k hk (hX.2.2.2.2.1 _ (List.mem_cons_of_mem _ hw)) (fun _ h9 => h9) hfin (hC.2.2.1 k hk) hn hf (by rw [mz_fs_len, hC.2.2.2.2.1]; exact hk) hd (fun H1 locs1 hP1 hD1 hS1 => ?_)
  have e1 : (mz_w B M).set q0 (mz_ad B i, .inr (ci, (mz_fs B M i ci).set k (va_rf (mz_ar B x)))) = mz_w B (mz_sr M i k x) := by
    rw [mz_fs_sr hR, ← mz_ce_o (B := B) (M := (mz_sr M i k x)) hkd]
    exact mz_w_set hI.2.2.1 hq (fun j hj => mz_ce_sr hj)
  rw [e1] at hP1 hD1
  exact h p l e mc ms s m args below meth c A H1 locs1 cells slots ls hX hl ⟨hI.1, hP1, hD1, hS1, hI.2.2.2.2.1, hI.2.2.2.2.2⟩ c1 c2
theorem mz_putIF {i : MzL} {ci k idx N : Nat} {C : String} {T : u_T} {ty : Nat → FieldType} {x : Int32} (hC : mzCl ci C T N ty) (hd : decode mm.2.1 pc = .ok (.putfield idx, 3)) (hk : k < N) (hw : Cond.fieldLink mm.1.cls idx (T k).1 (T k).2.1 (T k).2.2.1 ∈ mzAll) (hR : mzIsR ci k = false) (hfin : (T k).2.2.2 = true) (hin2 : mm.1.name = "<init>") (hdc : (T k).1 = mm.1.cls) (hn : narrow (ty k) (.int x) = (.int x)) (hf : fits (ty k) (.int x) = true) (hi : i ∈ mz_dm B) (hkd : mzKd i = .inl ci) (h : MzS G B d mm (mz_si M i k x) bu Q (pc + 3) lv st) : MzS G B d mm M bu Q pc lv ((.int x) :: .ref (mz_ad B i) :: st) := by
  intro p l e mc ms s m args below meth c A H locs cells slots ls hX hl hI c1 c2
  obtain ⟨q0, hq, hq0⟩ := mz_pl M hi
  rw [mz_ce_o hkd] at hq0
  refine va_putF (D := G.1) (cl := vwCl) (ci := ci) (C := C) (T := T) (N := N) (Ts := mzWs mm) (ty := ty k) hX.1 hX.2.1 hX.2.2.2.2.1 (fun w hw => List.mem_cons_of_mem _ (hC.2.1 w hw)) ty hC.2.2.1 hC.2.2.2.1 hX.2.2.2.2.2.1 hI.1 hI.2.1 hI.2.2.1 hI.2.2.2.1 q0 hq0 hC.1 k hk (hX.2.2.2.2.1 _ (List.mem_cons_of_mem _ hw)) (fun _ h9 => h9) hfin (hX.2.2.2.2.2.2.2.trans hin2) hdc (hC.2.2.1 k hk) hn hf (by rw [mz_fs_len, hC.2.2.2.2.1]; exact hk) hd (fun H1 locs1 hP1 hD1 hS1 => ?_)
  have e1 : (mz_w B M).set q0 (mz_ad B i, .inr (ci, (mz_fs B M i ci).set k (.int x))) = mz_w B (mz_si M i k x) := by
    rw [mz_fs_si hR, ← mz_ce_o (B := B) (M := (mz_si M i k x)) hkd]
    exact mz_w_set hI.2.2.1 hq (fun j hj => mz_ce_si hj)
  rw [e1] at hP1 hD1
  exact h p l e mc ms s m args below meth c A H1 locs1 cells slots ls hX hl ⟨hI.1, hP1, hD1, hS1, hI.2.2.2.2.1, hI.2.2.2.2.2⟩ c1 c2
theorem mz_putRF {i : MzL} {ci k idx N : Nat} {C : String} {T : u_T} {ty : Nat → FieldType} {x : Option MzL} (hC : mzCl ci C T N ty) (hd : decode mm.2.1 pc = .ok (.putfield idx, 3)) (hk : k < N) (hw : Cond.fieldLink mm.1.cls idx (T k).1 (T k).2.1 (T k).2.2.1 ∈ mzAll) (hR : mzIsR ci k = true) (hfin : (T k).2.2.2 = true) (hin2 : mm.1.name = "<init>") (hdc : (T k).1 = mm.1.cls) (hn : narrow (ty k) (va_rf (mz_ar B x)) = (va_rf (mz_ar B x))) (hf : fits (ty k) (va_rf (mz_ar B x)) = true) (hi : i ∈ mz_dm B) (hkd : mzKd i = .inl ci) (h : MzS G B d mm (mz_sr M i k x) bu Q (pc + 3) lv st) : MzS G B d mm M bu Q pc lv ((va_rf (mz_ar B x)) :: .ref (mz_ad B i) :: st) := by
  intro p l e mc ms s m args below meth c A H locs cells slots ls hX hl hI c1 c2
  obtain ⟨q0, hq, hq0⟩ := mz_pl M hi
  rw [mz_ce_o hkd] at hq0
  refine va_putF (D := G.1) (cl := vwCl) (ci := ci) (C := C) (T := T) (N := N) (Ts := mzWs mm) (ty := ty k) hX.1 hX.2.1 hX.2.2.2.2.1 (fun w hw => List.mem_cons_of_mem _ (hC.2.1 w hw)) ty hC.2.2.1 hC.2.2.2.1 hX.2.2.2.2.2.1 hI.1 hI.2.1 hI.2.2.1 hI.2.2.2.1 q0 hq0 hC.1 k hk (hX.2.2.2.2.1 _ (List.mem_cons_of_mem _ hw)) (fun _ h9 => h9) hfin (hX.2.2.2.2.2.2.2.trans hin2) hdc (hC.2.2.1 k hk) hn hf (by rw [mz_fs_len, hC.2.2.2.2.1]; exact hk) hd (fun H1 locs1 hP1 hD1 hS1 => ?_)
  have e1 : (mz_w B M).set q0 (mz_ad B i, .inr (ci, (mz_fs B M i ci).set k (va_rf (mz_ar B x)))) = mz_w B (mz_sr M i k x) := by
    rw [mz_fs_sr hR, ← mz_ce_o (B := B) (M := (mz_sr M i k x)) hkd]
    exact mz_w_set hI.2.2.1 hq (fun j hj => mz_ce_sr hj)
  rw [e1] at hP1 hD1
  exact h p l e mc ms s m args below meth c A H1 locs1 cells slots ls hX hl ⟨hI.1, hP1, hD1, hS1, hI.2.2.2.2.1, hI.2.2.2.2.2⟩ c1 c2
theorem mz_getVN {i : MzL} {ci k idx N : Nat} {C : String} {T : u_T} {ty : Nat → FieldType} (hC : mzCl ci C T N ty) (hd : decode mm.2.1 pc = .ok (.getfield idx, 3)) (hk : k < N) {host : String} (hw : mzNw (.fieldLinkNest mm.1.cls idx (T k).1 (T k).2.1 (T k).2.2.1 host) ∈ mzRo) (hi : i ∈ mz_dm B) (hkd : mzKd i = .inl ci) (h : MzS G B d mm M bu Q (pc + 3) lv (mz_fv B M i ci k :: st)) : MzS G B d mm M bu Q pc lv (.ref (mz_ad B i) :: st) := by
  intro p l e mc ms s m args below meth c A H locs cells slots ls hX hl hI c1 c2
  obtain ⟨q0, -, hq0⟩ := mz_pl M hi
  rw [mz_ce_o hkd] at hq0
  exact va_getN (D := G.1) (cl := vwCl) (ci := ci) (C := C) (T := T) (N := N) (Ts := mzWs mm) hX.1 hX.2.1 hX.2.2.2.2.1 (fun w hw => List.mem_cons_of_mem _ (hC.2.1 w hw)) hX.2.2.2.2.2.1 hI.1 hI.2.1 q0 hq0 hC.1 k hk (va_Nw.use rfl (hI.2.2.2.2.2 _ hw).2) (fun _ h9 => h9) (mz_fs_at (by rw [hC.2.2.2.2.1]; exact hk)) hd (h p l e mc ms s m args below meth c A H locs cells slots ls hX hl hI c1 c2)
theorem mz_getIN {i : MzL} {ci k idx N : Nat} {C : String} {T : u_T} {ty : Nat → FieldType} (hC : mzCl ci C T N ty) (hd : decode mm.2.1 pc = .ok (.getfield idx, 3)) (hk : k < N) {host : String} (hw : mzNw (.fieldLinkNest mm.1.cls idx (T k).1 (T k).2.1 (T k).2.2.1 host) ∈ mzRo) (hR : mzIsR ci k = false) (hi : i ∈ mz_dm B) (hkd : mzKd i = .inl ci) (h : MzS G B d mm M bu Q (pc + 3) lv (.int (mz_i M i k) :: st)) : MzS G B d mm M bu Q pc lv (.ref (mz_ad B i) :: st) :=
  mz_getVN hC hd hk hw hi hkd (by simpa [mz_fv, hR] using h)
theorem mz_getRN {i : MzL} {ci k idx N : Nat} {C : String} {T : u_T} {ty : Nat → FieldType} (hC : mzCl ci C T N ty) (hd : decode mm.2.1 pc = .ok (.getfield idx, 3)) (hk : k < N) {host : String} (hw : mzNw (.fieldLinkNest mm.1.cls idx (T k).1 (T k).2.1 (T k).2.2.1 host) ∈ mzRo) (hR : mzIsR ci k = true) (hi : i ∈ mz_dm B) (hkd : mzKd i = .inl ci) {a : MzL} (hr : mz_r M i k = some a) (h : MzS G B d mm M bu Q (pc + 3) lv (.ref (mz_ad B a) :: st)) : MzS G B d mm M bu Q pc lv (.ref (mz_ad B i) :: st) :=
  mz_getVN hC hd hk hw hi hkd (by simpa [mz_fv, hR, hr, va_rf, mz_ar] using h)
theorem mz_getON {i : MzL} {ci k idx N : Nat} {C : String} {T : u_T} {ty : Nat → FieldType} (hC : mzCl ci C T N ty) (hd : decode mm.2.1 pc = .ok (.getfield idx, 3)) (hk : k < N) {host : String} (hw : mzNw (.fieldLinkNest mm.1.cls idx (T k).1 (T k).2.1 (T k).2.2.1 host) ∈ mzRo) (hR : mzIsR ci k = true) (hi : i ∈ mz_dm B) (hkd : mzKd i = .inl ci) (hr : mz_r M i k = none) (h : MzS G B d mm M bu Q (pc + 3) lv (.null :: st)) : MzS G B d mm M bu Q pc lv (.ref (mz_ad B i) :: st) :=
  mz_getVN hC hd hk hw hi hkd (by simpa [mz_fv, hR, hr, va_rf, mz_ar] using h)
theorem mz_putIN {i : MzL} {ci k idx N : Nat} {C : String} {T : u_T} {ty : Nat → FieldType} {x : Int32} (hC : mzCl ci C T N ty) (hd : decode mm.2.1 pc = .ok (.putfield idx, 3)) (hk : k < N) {host : String} (hw : mzNw (.fieldLinkNest mm.1.cls idx (T k).1 (T k).2.1 (T k).2.2.1 host) ∈ mzRo) (hR : mzIsR ci k = false) (hfin : (T k).2.2.2 = false) (hn : narrow (ty k) (.int x) = (.int x)) (hf : fits (ty k) (.int x) = true) (hi : i ∈ mz_dm B) (hkd : mzKd i = .inl ci) (h : MzS G B d mm (mz_si M i k x) bu Q (pc + 3) lv st) : MzS G B d mm M bu Q pc lv ((.int x) :: .ref (mz_ad B i) :: st) := by
  intro p l e mc ms s m args below meth c A H locs cells slots ls hX hl hI c1 c2
  obtain ⟨q0, hq, hq0⟩ := mz_pl M hi
  rw [mz_ce_o hkd] at hq0
  refine va_putN (D := G.1) (cl := vwCl) (ci := ci) (C := C) (T := T) (N := N) (Ts := mzWs mm) (ty := ty k) hX.1 hX.2.1 hX.2.2.2.2.1 (fun w hw => List.mem_cons_of_mem _ (hC.2.1 w hw)) ty hC.2.2.1 hC.2.2.2.1 hX.2.2.2.2.2.1 hI.1 hI.2.1 hI.2.2.1 hI.2.2.2.1 q0 hq0 hC.1 k hk (va_Nw.use rfl (hI.2.2.2.2.2 _ hw).2) (fun _ h9 => h9) hfin (hC.2.2.1 k hk) hn hf (by rw [mz_fs_len, hC.2.2.2.2.1]; exact hk) hd (fun H1 locs1 hP1 hD1 hS1 => ?_)
  have e1 : (mz_w B M).set q0 (mz_ad B i, .inr (ci, (mz_fs B M i ci).set k (.int x))) = mz_w B (mz_si M i k x) := by
    rw [mz_fs_si hR, ← mz_ce_o (B := B) (M := (mz_si M i k x)) hkd]
    exact mz_w_set hI.2.2.1 hq (fun j hj => mz_ce_si hj)
  rw [e1] at hP1 hD1
  exact h p l e mc ms s m args below meth c A H1 locs1 cells slots ls hX hl ⟨hI.1, hP1, hD1, hS1, hI.2.2.2.2.1, hI.2.2.2.2.2⟩ c1 c2
theorem mz_putRN {i : MzL} {ci k idx N : Nat} {C : String} {T : u_T} {ty : Nat → FieldType} {x : Option MzL} (hC : mzCl ci C T N ty) (hd : decode mm.2.1 pc = .ok (.putfield idx, 3)) (hk : k < N) {host : String} (hw : mzNw (.fieldLinkNest mm.1.cls idx (T k).1 (T k).2.1 (T k).2.2.1 host) ∈ mzRo) (hR : mzIsR ci k = true) (hfin : (T k).2.2.2 = false) (hn : narrow (ty k) (va_rf (mz_ar B x)) = (va_rf (mz_ar B x))) (hf : fits (ty k) (va_rf (mz_ar B x)) = true) (hi : i ∈ mz_dm B) (hkd : mzKd i = .inl ci) (h : MzS G B d mm (mz_sr M i k x) bu Q (pc + 3) lv st) : MzS G B d mm M bu Q pc lv ((va_rf (mz_ar B x)) :: .ref (mz_ad B i) :: st) := by
  intro p l e mc ms s m args below meth c A H locs cells slots ls hX hl hI c1 c2
  obtain ⟨q0, hq, hq0⟩ := mz_pl M hi
  rw [mz_ce_o hkd] at hq0
  refine va_putN (D := G.1) (cl := vwCl) (ci := ci) (C := C) (T := T) (N := N) (Ts := mzWs mm) (ty := ty k) hX.1 hX.2.1 hX.2.2.2.2.1 (fun w hw => List.mem_cons_of_mem _ (hC.2.1 w hw)) ty hC.2.2.1 hC.2.2.2.1 hX.2.2.2.2.2.1 hI.1 hI.2.1 hI.2.2.1 hI.2.2.2.1 q0 hq0 hC.1 k hk (va_Nw.use rfl (hI.2.2.2.2.2 _ hw).2) (fun _ h9 => h9) hfin (hC.2.2.1 k hk) hn hf (by rw [mz_fs_len, hC.2.2.2.2.1]; exact hk) hd (fun H1 locs1 hP1 hD1 hS1 => ?_)
  have e1 : (mz_w B M).set q0 (mz_ad B i, .inr (ci, (mz_fs B M i ci).set k (va_rf (mz_ar B x)))) = mz_w B (mz_sr M i k x) := by
    rw [mz_fs_sr hR, ← mz_ce_o (B := B) (M := (mz_sr M i k x)) hkd]
    exact mz_w_set hI.2.2.1 hq (fun j hj => mz_ce_sr hj)
  rw [e1] at hP1 hD1
  exact h p l e mc ms s m args below meth c A H1 locs1 cells slots ls hX hl ⟨hI.1, hP1, hD1, hS1, hI.2.2.2.2.1, hI.2.2.2.2.2⟩ c1 c2
theorem mz_ix {x : Int32} {j n : Nat} (hj : x.toInt = (j : Int)) (hn : j < n) : vp_in x n ∧ x.toNatClampNeg = j := by
  refine ⟨vp_in_iff.mpr ⟨by omega, by omega⟩, ?_⟩
  show x.toInt.toNat = j
  omega
theorem mz_iald {i : MzL} {n : Nat} {x : Int32} (j : Nat) (hd : decode mm.2.1 pc = .ok (.iaload, 1)) (hi : i ∈ mz_dm B) (hkd : mzKd i = .inr (.int, n)) (hj : x.toInt = (j : Int)) (hn : j < n) (h : MzS G B d mm M bu Q (pc + 1) lv (.int (mz_i M i j) :: st)) : MzS G B d mm M bu Q pc lv (.int x :: .ref (mz_ad B i) :: st) := by
  intro p l e mc ms s m args below meth c A H locs cells slots ls hX hl hI c1 c2
  obtain ⟨q0, -, hq0⟩ := mz_pl M hi
  obtain ⟨t0, ht0⟩ := mz_tyl hi hkd
  rw [mz_ce_i hkd rfl] at hq0
  obtain ⟨g1, g2⟩ := mz_ix hj hn
  refine va_iald hX.1 hX.2.1 hI.1 hI.2.1 q0 t0 hq0 ht0 g1 hd ?_
  rw [g2]
  exact h p l e mc ms s m args below meth c A H locs cells slots ls hX hl hI c1 c2
theorem mz_zald {i : MzL} {n : Nat} {x : Int32} (j : Nat) (hd : decode mm.2.1 pc = .ok (.baload, 1)) (hi : i ∈ mz_dm B) (hkd : mzKd i = .inr (.boolean, n)) (hj : x.toInt = (j : Int)) (hn : j < n) (h : MzS G B d mm M bu Q (pc + 1) lv (.int (mz_i M i j) :: st)) : MzS G B d mm M bu Q pc lv (.int x :: .ref (mz_ad B i) :: st) := by
  intro p l e mc ms s m args below meth c A H locs cells slots ls hX hl hI c1 c2
  obtain ⟨q0, -, hq0⟩ := mz_pl M hi
  obtain ⟨t0, ht0⟩ := mz_tyl hi hkd
  rw [mz_ce_i hkd rfl] at hq0
  obtain ⟨g1, g2⟩ := mz_ix hj hn
  refine va_zald hX.1 hX.2.1 hI.1 hI.2.1 q0 t0 hq0 ht0 g1 hd ?_
  rw [g2]
  exact h p l e mc ms s m args below meth c A H locs cells slots ls hX hl hI c1 c2
theorem mz_bald {i : MzL} {n : Nat} {x : Int32} (j : Nat) (hd : decode mm.2.1 pc = .ok (.baload, 1)) (hi : i ∈ mz_dm B) (hkd : mzKd i = .inr (.byte, n)) (hj : x.toInt = (j : Int)) (hn : j < n) (h : MzS G B d mm M bu Q (pc + 1) lv (.int (mz_i M i j) :: st)) : MzS G B d mm M bu Q pc lv (.int x :: .ref (mz_ad B i) :: st) := by
  intro p l e mc ms s m args below meth c A H locs cells slots ls hX hl hI c1 c2
  obtain ⟨q0, -, hq0⟩ := mz_pl M hi
  obtain ⟨t0, ht0⟩ := mz_tyl hi hkd
  rw [mz_ce_i hkd rfl] at hq0
  obtain ⟨g1, g2⟩ := mz_ix hj hn
  refine va_bald hX.1 hX.2.1 hI.1 hI.2.1 q0 t0 hq0 ht0 g1 hd ?_
  rw [g2]
  exact h p l e mc ms s m args below meth c A H locs cells slots ls hX hl hI c1 c2
theorem mz_iast {i : MzL} {n : Nat} {x v : Int32} (j : Nat) (hd : decode mm.2.1 pc = .ok (.iastore, 1)) (hi : i ∈ mz_dm B) (hkd : mzKd i = .inr (.int, n)) (hj : x.toInt = (j : Int)) (hn : j < n) (h : MzS G B d mm (mz_si M i j v) bu Q (pc + 1) lv st) : MzS G B d mm M bu Q pc lv (.int v :: .int x :: .ref (mz_ad B i) :: st) := by
  intro p l e mc ms s m args below meth c A H locs cells slots ls hX hl hI c1 c2
  obtain ⟨q0, hq, hq0⟩ := mz_pl M hi
  obtain ⟨t0, ht0⟩ := mz_tyl hi hkd
  rw [mz_ce_i hkd rfl] at hq0
  obtain ⟨g1, g2⟩ := mz_ix hj hn
  refine va_iast hX.1 hX.2.1 hI.1 hI.2.1 hI.2.2.1 hI.2.2.2.1 q0 t0 hq0 ht0 g1 hd (fun H1 locs1 hP1 hD1 hS1 => ?_)
  have e0 : upd (mz_i M i) j v = mz_i (mz_si M i j v) i := by
    funext b
    simp [upd, mz_i_si]
  have e1 : (mz_w B M).set q0 (mz_ad B i, .inl (mz_ca B i, n, .inl (upd (mz_i M i) j v))) = mz_w B (mz_si M i j v) := by
    rw [e0, ← mz_ce_i (B := B) (M := mz_si M i j v) hkd rfl]
    exact mz_w_set hI.2.2.1 hq (fun j hj => mz_ce_si hj)
  rw [g2, e1] at hP1 hD1
  exact h p l e mc ms s m args below meth c A H1 locs1 cells slots ls hX hl ⟨hI.1, hP1, hD1, hS1, hI.2.2.2.2.1, hI.2.2.2.2.2⟩ c1 c2
theorem mz_zast {i : MzL} {n : Nat} {x v : Int32} (j : Nat) (hd : decode mm.2.1 pc = .ok (.bastore, 1)) (hi : i ∈ mz_dm B) (hkd : mzKd i = .inr (.boolean, n)) (hj : x.toInt = (j : Int)) (hn : j < n) (hv : vp_nar .boolean v = v) (h : MzS G B d mm (mz_si M i j v) bu Q (pc + 1) lv st) : MzS G B d mm M bu Q pc lv (.int v :: .int x :: .ref (mz_ad B i) :: st) := by
  intro p l e mc ms s m args below meth c A H locs cells slots ls hX hl hI c1 c2
  obtain ⟨q0, hq, hq0⟩ := mz_pl M hi
  obtain ⟨t0, ht0⟩ := mz_tyl hi hkd
  rw [mz_ce_i hkd rfl] at hq0
  obtain ⟨g1, g2⟩ := mz_ix hj hn
  refine va_zast hX.1 hX.2.1 hI.1 hI.2.1 hI.2.2.1 hI.2.2.2.1 q0 t0 hq0 ht0 g1 hd (fun H1 locs1 hP1 hD1 hS1 => ?_)
  have e0 : upd (mz_i M i) j v = mz_i (mz_si M i j v) i := by
    funext b
    simp [upd, mz_i_si]
  have e1 : (mz_w B M).set q0 (mz_ad B i, .inl (mz_ca B i, n, .inl (upd (mz_i M i) j v))) = mz_w B (mz_si M i j v) := by
    rw [e0, ← mz_ce_i (B := B) (M := mz_si M i j v) hkd rfl]
    exact mz_w_set hI.2.2.1 hq (fun j hj => mz_ce_si hj)
  rw [g2, hv, e1] at hP1 hD1
  exact h p l e mc ms s m args below meth c A H1 locs1 cells slots ls hX hl ⟨hI.1, hP1, hD1, hS1, hI.2.2.2.2.1, hI.2.2.2.2.2⟩ c1 c2
theorem mz_alen {i : MzL} {n : Nat} {fty : FieldType} (v : Int32) (hd : decode mm.2.1 pc = .ok (.arraylength, 1)) (hi : i ∈ mz_dm B) (hkd : mzKd i = .inr (fty, n)) (hv : Int32.ofNat n = v) (h : MzS G B d mm M bu Q (pc + 1) lv (.int v :: st)) : MzS G B d mm M bu Q pc lv (.ref (mz_ad B i) :: st) := by
  intro p l e mc ms s m args below meth c A H locs cells slots ls hX hl hI c1 c2
  obtain ⟨q0, -, hq0⟩ := mz_pl M hi
  obtain ⟨t0, ht0⟩ := mz_tyl hi hkd
  cases hr : mzRT fty with
  | false =>
    rw [mz_ce_i hkd hr] at hq0
    exact va_alen hX.1 hX.2.1 hI.1 hI.2.1 q0 t0 hq0 ht0 hv hd (h p l e mc ms s m args below meth c A H locs cells slots ls hX hl hI c1 c2)
  | true =>
    rw [mz_ce_r hkd hr] at hq0
    exact va_alen hX.1 hX.2.1 hI.1 hI.2.1 q0 t0 hq0 ht0 hv hd (h p l e mc ms s m args below meth c A H locs cells slots ls hX hl hI c1 c2)
theorem mz_aald {i : MzL} {n : Nat} {E : String} {x : Int32} (j : Nat) {a : MzL} (hd : decode mm.2.1 pc = .ok (.aaload, 1)) (hi : i ∈ mz_dm B) (hkd : mzKd i = .inr (.object E, n)) (hj : x.toInt = (j : Int)) (hn : j < n) (hr : mz_r M i j = some a) (h : MzS G B d mm M bu Q (pc + 1) lv (.ref (mz_ad B a) :: st)) : MzS G B d mm M bu Q pc lv (.int x :: .ref (mz_ad B i) :: st) := by
  intro p l e mc ms s m args below meth c A H locs cells slots ls hX hl hI c1 c2
  obtain ⟨q0, -, hq0⟩ := mz_pl M hi
  obtain ⟨t0, ht0⟩ := mz_tyl hi hkd
  rw [mz_ce_r hkd rfl] at hq0
  obtain ⟨g1, g2⟩ := mz_ix hj hn
  refine va_aldq hX.1 hX.2.1 hI.1 hI.2.1 q0 t0 hq0 ht0 g1 hd ?_
  rw [g2, hr]
  exact h p l e mc ms s m args below meth c A H locs cells slots ls hX hl hI c1 c2
theorem mz_aast {i v : MzL} {n ci : Nat} {E : String} {T : u_T} {N : Nat} {x : Int32} (j : Nat) (hd : decode mm.2.1 pc = .ok (.aastore, 1)) (hi : i ∈ mz_dm B) (hkd : mzKd i = .inr (.object E, n)) (hj : x.toInt = (j : Int)) (hn : j < n) (hv : v ∈ mz_dm B) (hkv : mzKd v = .inl ci) (hc : vwCl[ci]? = some (E, T, N)) (h : MzS G B d mm (mz_sr M i j (some v)) bu Q (pc + 1) lv st) : MzS G B d mm M bu Q pc lv (.ref (mz_ad B v) :: .int x :: .ref (mz_ad B i) :: st) := by
  intro p l e mc ms s m args below meth c A H locs cells slots ls hX hl hI c1 c2
  obtain ⟨q0, hq, hq0⟩ := mz_pl M hi
  obtain ⟨t0, ht0⟩ := mz_tyl hi hkd
  obtain ⟨qv, -, hqv⟩ := mz_pl M hv
  rw [mz_ce_r hkd rfl] at hq0
  rw [mz_ce_o hkv] at hqv
  obtain ⟨g1, g2⟩ := mz_ix hj hn
  refine va_astq (r := (E, T, N)) hX.1 hX.2.1 hI.1 hI.2.1 hI.2.2.1 hI.2.2.2.1 q0 t0 qv ci hq0 ht0 hqv hc g1 hd (fun H1 locs1 hP1 hD1 hS1 => ?_)
  have e0 : va_up (fun j => mz_ar B (mz_r M i j)) j (some (mz_ad B v)) = (fun j9 => mz_ar B (mz_r (mz_sr M i j (some v)) i j9)) := by
    funext b
    by_cases hb9 : b = j
    · simp [va_up, mz_r_sr, hb9, mz_ar]
    · simp [va_up, mz_r_sr, hb9]
  have e1 : (mz_w B M).set q0 (mz_ad B i, .inl (mz_ca B i, n, .inr (.inr (.inr (.inr (va_up (fun j => mz_ar B (mz_r M i j)) j (some (mz_ad B v)))))))) = mz_w B (mz_sr M i j (some v)) := by
    rw [e0, ← mz_ce_r (B := B) (M := mz_sr M i j (some v)) hkd rfl]
    exact mz_w_set hI.2.2.1 hq (fun j hj => mz_ce_sr hj)
  rw [g2, e1] at hP1 hD1
  exact h p l e mc ms s m args below meth c A H1 locs1 cells slots ls hX hl ⟨hI.1, hP1, hD1, hS1, hI.2.2.2.2.1, hI.2.2.2.2.2⟩ c1 c2
theorem mz_new {i : MzL} {ci idx N : Nat} {C : String} {T : u_T} {ty : Nat → FieldType} (hC : mzCl ci C T N ty) (hd : decode mm.2.1 pc = .ok (.new idx, 3)) (hw : Cond.classLink mm.1.cls idx C ∈ mzAll) (hin : Cond.instantiable C N ∈ mzAll) (hini : Cond.initialized C ∈ mzAll) (hdv : ∀ k, k < N → defaultValue (ty k) = if mzIsR ci k = true then .null else .int 0) (hwf : mzWf B M) (hf : i ∉ mz_dm B) (hkd : mzKd i = .inl ci) (hb1 : 1 ≤ bu.1) (hb2 : N ≤ bu.2) (h : ∀ q, MzS G (mz_nb B i q 0) d mm (mz_nm M i) (bu.1 - 1, bu.2 - N) Q (pc + 3) lv (.ref (mz_ad (mz_nb B i q 0) i) :: st)) : MzS G B d mm M bu Q pc lv st := by
  intro p l e mc ms s m args below meth c A H locs cells slots ls hX hl hI c1 c2
  refine va_new (D := G.1) (cl := vwCl) (ci := ci) (fs := mz_fs B (mz_nm M i) i ci) (C := C) (T := T) (N := N) (Ts := mzWs mm) hX.1 hX.2.1 hX.2.2.2.2.1 (fun w hw => List.mem_cons_of_mem _ (hC.2.1 w hw)) ty hC.2.2.1 hX.2.2.2.2.2.1 (hX.2.2.2.2.1 _ (List.mem_cons_of_mem _ hw)) (hX.2.2.2.2.1 _ (List.mem_cons_of_mem _ hin)) (hX.2.2.2.2.1 _ (List.mem_cons_of_mem _ hini)) hI.1 hI.2.1 hI.2.2.1 hI.2.2.2.1 hI.2.2.2.2.1 hC.1 (fun j hj => ?_) (show cells + 1 ≤ mc by omega) (show slots + N ≤ ms by omega) hd (fun q H1 hP1 hD1 hS1 => ?_)
  · rw [hdv j hj, vp_V, List.getD_eq_getElem?_getD, mz_fs_at (by rw [hC.2.2.2.2.1]; exact hj)]
    simp only [mz_fv, mz_r_nm, mz_i_nm, if_true, va_rf, mz_ar, Option.map_none, Option.getD_some]
  · have e1 : mz_w B M ++ [(q, .inr (ci, mz_fs B (mz_nm M i) i ci))] = mz_w (mz_nb B i q 0) (mz_nm M i) := by
      rw [mz_w_nb hwf hf, mz_ce_o hkd, mz_fs_eq (B := B) (B' := mz_nb B i q 0) (M := mz_nm M i) rfl (fun b => by simp [mz_r_nm, mz_ar])]
    have e2 : mz_ty (mz_nb B i q 0) = mz_ty B := by
      rw [mz_ty_nb hf]
      simp [mz_tyo, hkd]
    have e3 : mz_ad (mz_nb B i q 0) i = q := by simp [mz_ad_nb]
    rw [e1] at hP1 hD1
    have h9 := h q p l e mc ms s m args below meth c A H1 locs (cells + 1) (slots + N) ls hX hl ⟨by rw [e2]; exact hI.1, hP1, hD1, hS1, hI.2.2.2.2.1, hI.2.2.2.2.2⟩ (show cells + 1 + (bu.1 - 1) ≤ mc by omega) (show slots + N + (bu.2 - N) ≤ ms by omega)
    rw [e3] at h9
    exact h9
theorem mz_newa {i : MzL} {n : Nat} {fty : FieldType} {at0 : ArrayType} {x : Int32} (hd : decode mm.2.1 pc = .ok (.newarray at0, 2)) (hw : Cond.arrayClass fty ∈ mzAll) (hty : newarray.typeOf at0 = fty) (hr : mzRT fty = false) (hdv : defaultValue fty = .int 0) (hx : x.toInt = (n : Int)) (hby : n * componentBytes fty ≤ 536870912) (hwf : mzWf B M) (hf : i ∉ mz_dm B) (hkd : mzKd i = .inr (fty, n)) (hb1 : 1 ≤ bu.1) (hb2 : n ≤ bu.2) (h : ∀ q cA, MzS G (mz_nb B i q cA) d mm (mz_nm M i) (bu.1 - 1, bu.2 - n) Q (pc + 2) lv (.ref (mz_ad (mz_nb B i q cA) i) :: st)) : MzS G B d mm M bu Q pc lv (.int x :: st) := by
  intro p l e mc ms s m args below meth c A H locs cells slots ls hX hl hI c1 c2
  have hx0 : ¬ x < 0 := by
    intro h0
    have := Int32.lt_iff_toInt_lt.mp h0
    simp at this
    omega
  have hxn : x.toNatClampNeg = n := by
    show x.toInt.toNat = n
    omega
  refine va_newa (D := G.1) (cl := vwCl) (a0 := (n, .inl (fun _ => 0))) (N' := n) hX.1 hX.2.1 (by rw [hty]; exact hX.2.2.2.2.1 _ (List.mem_cons_of_mem _ hw)) hty hI.1 hI.2.1 hI.2.2.1 hI.2.2.2.1 hI.2.2.2.2.1 (fun cA => by rw [vp_cell_i, hdv]) hx0 hxn hby (show cells + 1 ≤ mc by omega) (show slots + n ≤ ms by omega) hd (fun q cA H1 hK1 hP1 hD1 hS1 => ?_)
  have e1 : mz_w B M ++ [(q, .inl (cA, n, .inl (fun _ => 0)))] = mz_w (mz_nb B i q cA) (mz_nm M i) := by
    rw [mz_w_nb hwf hf, mz_ce_i hkd hr]
    have a1 : mz_ca (mz_nb B i q cA) i = cA := by simp [mz_ca, mz_nb]
    have a2 : mz_i (mz_nm M i) i = fun _ => 0 := by
      funext b
      simp [mz_i_nm]
    rw [a1, a2]
  have e2 : mz_ty (mz_nb B i q cA) = mz_ty B ++ [(cA, fty)] := by
    rw [mz_ty_nb hf]
    simp [mz_tyo, hkd, mz_ca, mz_nb]
  have e3 : mz_ad (mz_nb B i q cA) i = q := by simp [mz_ad_nb]
  rw [e1] at hP1 hD1
  have h9 := h q cA p l e mc ms s m args below meth c A H1 locs (cells + 1) (slots + n) ls hX hl ⟨by rw [e2]; exact hK1, hP1, hD1, hS1, hI.2.2.2.2.1, hI.2.2.2.2.2⟩ (show cells + 1 + (bu.1 - 1) ≤ mc by omega) (show slots + n + (bu.2 - n) ≤ ms by omega)
  rw [e3] at h9
  exact h9
theorem mz_newq {i : MzL} {n idx : Nat} {E : String} {x : Int32} (hd : decode mm.2.1 pc = .ok (.anewarray idx, 3)) (hw : Cond.classLink mm.1.cls idx E ∈ mzAll) (hov : mzAo E ∈ mzRo) (hx : x.toInt = (n : Int)) (hby : n * 4 ≤ 536870912) (hwf : mzWf B M) (hf : i ∉ mz_dm B) (hkd : mzKd i = .inr (.object E, n)) (hb1 : 1 ≤ bu.1) (hb2 : n ≤ bu.2) (h : ∀ q cA, MzS G (mz_nb B i q cA) d mm (mz_nm M i) (bu.1 - 1, bu.2 - n) Q (pc + 3) lv (.ref (mz_ad (mz_nb B i q cA) i) :: st)) : MzS G B d mm M bu Q pc lv (.int x :: st) := by
  intro p l e mc ms s m args below meth c A H locs cells slots ls hX hl hI c1 c2
  have hx0 : ¬ x < 0 := by
    intro h0
    have := Int32.lt_iff_toInt_lt.mp h0
    simp at this
    omega
  have hxn : x.toNatClampNeg = n := by
    show x.toInt.toNat = n
    omega
  refine va_newq (D := G.1) (cl := vwCl) (N' := n) hX.1 hX.2.1 hX.2.2.2.2.2.1 (hX.2.2.2.2.1 _ (List.mem_cons_of_mem _ hw)) (hI.2.2.2.2.2 _ hov).2 hI.1 hI.2.1 hI.2.2.1 hI.2.2.2.1 hI.2.2.2.2.1 hx0 hxn hby (show cells + 1 ≤ mc by omega) (show slots + n ≤ ms by omega) hd (fun q cA H1 hK1 hP1 hD1 hS1 => ?_)
  have e1 : mz_w B M ++ [(q, .inl (cA, n, .inr (.inr (.inr (.inr (fun _ => none))))))] = mz_w (mz_nb B i q cA) (mz_nm M i) := by
    rw [mz_w_nb hwf hf, mz_ce_r hkd rfl]
    have a1 : mz_ca (mz_nb B i q cA) i = cA := by simp [mz_ca, mz_nb]
    have a2 : (fun j => mz_ar (mz_nb B i q cA) (mz_r (mz_nm M i) i j)) = fun _ => none := by
      funext b
      simp [mz_r_nm, mz_ar]
    rw [a1, a2]
  have e2 : mz_ty (mz_nb B i q cA) = mz_ty B ++ [(cA, .object E)] := by
    rw [mz_ty_nb hf]
    simp [mz_tyo, hkd, mz_ca, mz_nb]
  have e3 : mz_ad (mz_nb B i q cA) i = q := by simp [mz_ad_nb]
  rw [e1] at hP1 hD1
  have h9 := h q cA p l e mc ms s m args below meth c A H1 locs (cells + 1) (slots + n) ls hX hl ⟨by rw [e2]; exact hK1, hP1, hD1, hS1, hI.2.2.2.2.1, hI.2.2.2.2.2⟩ (show cells + 1 + (bu.1 - 1) ≤ mc by omega) (show slots + n + (bu.2 - n) ≤ ms by omega)
  rw [e3] at h9
  exact h9
theorem mz_objInit {idx a : Nat} (hd : decode mm.2.1 pc = .ok (.invokespecial idx, 3)) (h1 : Cond.methodLink mm.1.cls idx Lib.objectInit ∈ mzAll) (h2 : Cond.instanceMethod Lib.objectInit ∈ mzAll) (h3 : Cond.code Lib.objectInit ⟨#[0xb1]⟩ 1 none ∈ mzAll) (hd1 : 1 ≤ d) (hst : (st.map fun v => v.category).sum ≤ 8) (h : MzS G B d mm M bu Q (pc + 3) lv st) : MzS G B d mm M bu Q pc lv (.ref a :: st) := by
  intro p l e mc ms s m args below meth c A H locs cells slots ls hX hl hI c1 c2
  refine W.objInit hX.1 hX.2.1 hX.2.2.2.2.2.1 (hX.2.2.2.2.1 _ (List.mem_cons_of_mem _ h1)) (hX.2.2.2.2.1 _ (List.mem_cons_of_mem _ h2)) (hX.2.2.2.2.1 _ (List.mem_cons_of_mem _ h3)) rfl (by rw [hX.2.2.1]; exact hl.1) rfl hd (show 1 ≤ d by omega) (show 2 * (F0 m pc ls (.ref a :: st)).monitorRoom + (st.map fun v => v.category).sum + 12 ≤ 46 * d by have := lv_room (m := m) (pc := pc) (ls := ls) (rest := .ref a :: st) hst; omega) ?_
  exact h p l e mc ms s m args below meth c A H locs cells slots ls hX hl hI c1 c2
/-- behind a call: the machine goes on over the callee's memory -/
theorem mz_back {p : Program} {l : Launch} {e : Env} {mc ms : Nat} {s : State} {m : MethodId} {args : Array Value} {below : List Frame} {meth : Method} {c : Code} {A : Nat → Prop} {H : Heap} {locs : List Loc} {cells slots : Nat} {ls : Array Slot} {st0 rest : List Value} {a : Array Value} {m1 m2 : Nat} (hX : mzX mm p s m args meth c) (hl : lv_has ls mm.2.2.1 lv) (hI : mzI G B M A s H locs) (c1 : cells + bu.1 ≤ mc) (c2 : slots + bu.2 ≤ ms) (hb1 : m1 ≤ bu.1) (hb2 : m2 ≤ bu.2)
    (hr : va_Run p l e (mzRm d mc ms) s m args below meth c H locs cells slots m1 m2 (F0 m pc ls st0) rest (mzQ G (fun r B' M' => ∃ v, r = .inl v ∧ MzS G B' d mm M' (bu.1 - m1, bu.2 - m2) Q (pc + 3) lv (v.toList ++ rest)) (va_A (mz_w B M) H.size) a) (va_A (mz_w B M) H.size)) : W p l e (mzRm d mc ms) s m args below meth c H locs cells slots (MQ below (mzQ G Q A) args s mc ms A) (F0 m pc ls st0) := by
  intro T hT X
  obtain ⟨v, st₀, t, T', L, h0, X', hL, e1, e2, ⟨⟨r, B', M', ⟨v', hv', hS⟩, hoc, hP', hK', hD'⟩, hz, hk⟩, stp⟩ := hr T hT X
  subst hv'
  have hoc : Outcome.returned v = .returned v' := hoc
  cases hoc
  rw [h0] at hz hk
  have hAA : ∀ q, va_A (mz_w B M) H.size q → A q := by
    intro q hq
    rcases hq with ⟨k, ee, hq⟩ | hq
    · exact hI.2.2.1.2 k (q, ee) hq
    · exact hI.2.2.2.2.1 q (Nat.le_trans hI.2.2.2.1.1 hq)
  have hal : s.vm.Alike t.vm := by rw [← e2]; exact X'.warmed.alike
  have hI' : mzI G B' M' A s T'.heap (locs ++ L) := by
    refine ⟨va_K.moved hal.symm hK', by rw [e1]; exact hP', hD'.weaken (fun k q _ h9 => hAA q.1 h9), ⟨Nat.le_trans hI.2.2.2.1.1 (by rw [e1]; exact hz), fun q g1 g2 => ?_, fun q hq => ?_⟩, hI.2.2.2.2.1, hI.2.2.2.2.2⟩
    · rw [e1, hk q (Nat.lt_of_lt_of_le g1 hI.2.2.2.1.1) (fun z => g2 (hAA q z))]
      exact hI.2.2.2.1.2.1 q g1 g2
    · rcases List.mem_append.mp hq with h9 | h9
      · exact hI.2.2.2.1.2.2 q h9
      · exact hAA _ (hL q h9)
  obtain ⟨t2, a1, b1⟩ := hS p l e mc ms s m args below meth c A T'.heap (locs ++ L) (cells + m1) (slots + m2) ls hX hl hI' (show cells + m1 + (bu.1 - m1) ≤ mc by omega) (show slots + m2 + (bu.2 - m2) ≤ ms by omega) T' rfl X'
  exact ⟨t2, stp t2 a1, b1⟩
/-- what a call site needs of the tables -/
def mzCall (mm mm' : MzT) (n : Nat) : Prop := Cond.initialized mm'.1.cls ∈ mzAll ∧ Cond.code mm'.1 mm'.2.1 mm'.2.2.1 mm'.2.2.2 ∈ mzAll ∧ (mm'.1.cls ≠ "java/lang/invoke/MethodHandle" ∧ mm'.1.cls ≠ "java/lang/invoke/VarHandle" ∧ (parseMethodDescriptor mm'.1.desc).map (fun d => d.parameters.length) = some n) ∧ mm'.2.2.1 ≤ 27
theorem mz_good {mm' : MzT} (h : Cond.code mm'.1 mm'.2.1 mm'.2.2.1 mm'.2.2.2 ∈ mzAll) : GoodIn (mzWs mm) (mzWs mm') := by
  intro w hw
  rcases List.mem_cons.mp hw with rfl | hw
  · exact ⟨List.mem_cons_of_mem _ h, mzAll_good _ h⟩
  · exact ⟨List.mem_cons_of_mem _ hw, mzAll_good _ hw⟩
theorem mz_preOf {s U : State} {A : Nat → Prop} {H : Heap} {locs : List Loc} {av : List Value} (hI : mzI G B M A s H locs) (hU : U.heap = H) (hW : s.WarmedH U.vm) : va_Pc av (mzPre G B M H.size) av.toArray U := by
  refine ⟨rfl, by rw [hU], by rw [hU]; exact hI.2.1, va_K.moved hW.alike hI.1, hI.2.2.1.weaken (fun _ _ _ _ => trivial), ?_⟩
  have hAA : ∀ q, va_A (mz_w B M) H.size q → A q := by
    intro q hq
    rcases hq with ⟨k, ee, hq⟩ | hq
    · exact hI.2.2.1.2 k (q, ee) hq
    · exact hI.2.2.2.2.1 q (Nat.le_trans hI.2.2.2.1.1 hq)
  rw [hU]
  exact mz_ro.narrow hAA (mz_ro.kept hI.2.2.2.1.2.1 (mz_ro.warm hW hI.2.2.2.2.2))
theorem mz_callV {mm' : MzT} {idx : Nat} {As : List Value} {i : MzL} {ci : Nat} {T : u_T} {N : Nat} (hi : i ∈ mz_dm B) (hkd : mzKd i = .inl ci) (hcl : vwCl[ci]? = some (mm'.1.cls, T, N)) (m1 m2 : Nat) (hd : decode mm.2.1 pc = .ok (.invokevirtual idx, 3)) (hcs : mzCall mm mm' As.length) (hw : Cond.methodLink mm.1.cls idx mm'.1 ∈ mzAll) (hin : Cond.instanceMethod mm'.1 ∈ mzAll) (hse : Cond.selects mm'.1.cls mm'.1 mm'.1 ∈ mzAll) (hst : (st.map fun v => v.category).sum ≤ 8) (hb1 : m1 ≤ bu.1) (hb2 : m2 ≤ bu.2)
    (h : MzC G B d mm' (.ref (mz_ad B i) :: As) M (m1, m2) (fun r B' M' => ∃ v, r = .inl v ∧ MzS G B' (d + 1) mm M' (bu.1 - m1, bu.2 - m2) Q (pc + 3) lv (v.toList ++ st))) : MzS G B (d + 1) mm M bu Q pc lv (As.reverse ++ .ref (mz_ad B i) :: st) := by
  intro p l e mc ms s m args below meth c A H locs cells slots ls hX hl hI c1 c2
  obtain ⟨q0, -, hq0⟩ := mz_pl M hi
  rw [mz_ce_o hkd] at hq0
  refine mz_back hX hl hI c1 c2 hb1 hb2 (va_runV (y := mm'.1) (bytes := mm'.2.1) (maxL := mm'.2.2.1) (ret := mm'.2.2.2) (ws := mzWs mm') (rm := mzRm d m1 m2) (C := mm'.1.cls) (As := As) (rest := st) (nL := mm.2.2.1) (Ts := mzWs mm) (own := mm.1.cls) (n := As.length) ⟨hX.1, hX.2.1, hX.2.2.1, hX.2.2.2.2.2.1, hX.2.2.2.2.1⟩ (h l H.size) ⟨callB_of As.length hX.2.2.2.2.1 (mz_good hcs.2.1) rfl rfl rfl (hX.2.2.2.2.1 _ (List.mem_cons_of_mem _ hcs.1)) (hX.2.2.2.2.1 _ (List.mem_cons_of_mem _ hw)) hcs.2.2.1 ⟨Nat.le_refl _, show 8 + (mm'.2.2.1 + 11) + 46 * d ≤ 46 * (d + 1) by have := hcs.2.2.2; omega⟩, hX.2.2.2.2.1 _ (List.mem_cons_of_mem _ hin), hX.2.2.2.2.1 _ (List.mem_cons_of_mem _ hse)⟩ ⟨mz_pre_blind, va_recv hI.1 hI.2.1 hcl hq0, fun U hU hW => mz_preOf hI hU hW⟩ rfl rfl hl.1 rfl (lv_room hst) hd ⟨show cells + m1 ≤ mc by omega, show slots + m2 ≤ ms by omega⟩)
theorem mz_callS {mm' : MzT} {idx : Nat} {As : List Value} (m1 m2 : Nat) (hd : decode mm.2.1 pc = .ok (.invokestatic idx, 3)) (hcs : mzCall mm mm' As.length) (hw : Cond.methodLink mm.1.cls idx mm'.1 ∈ mzAll) (hin : Cond.static mm'.1 ∈ mzAll) (hst : (st.map fun v => v.category).sum ≤ 8) (hb1 : m1 ≤ bu.1) (hb2 : m2 ≤ bu.2)
    (h : MzC G B d mm' As M (m1, m2) (fun r B' M' => ∃ v, r = .inl v ∧ MzS G B' (d + 1) mm M' (bu.1 - m1, bu.2 - m2) Q (pc + 3) lv (v.toList ++ st))) : MzS G B (d + 1) mm M bu Q pc lv (As.reverse ++ st) := by
  intro p l e mc ms s m args below meth c A H locs cells slots ls hX hl hI c1 c2
  refine mz_back hX hl hI c1 c2 hb1 hb2 (va_runS (y := mm'.1) (bytes := mm'.2.1) (maxL := mm'.2.2.1) (ret := mm'.2.2.2) (ws := mzWs mm') (rm := mzRm d m1 m2) (As := As) (rest := st) (nL := mm.2.2.1) (Ts := mzWs mm) (own := mm.1.cls) (n := As.length) ⟨hX.1, hX.2.1, hX.2.2.1, hX.2.2.2.2.2.1, hX.2.2.2.2.1⟩ (h l H.size) ⟨callB_of As.length hX.2.2.2.2.1 (mz_good hcs.2.1) rfl rfl rfl (hX.2.2.2.2.1 _ (List.mem_cons_of_mem _ hcs.1)) (hX.2.2.2.2.1 _ (List.mem_cons_of_mem _ hw)) hcs.2.2.1 ⟨Nat.le_refl _, show 8 + (mm'.2.2.1 + 11) + 46 * d ≤ 46 * (d + 1) by have := hcs.2.2.2; omega⟩, hX.2.2.2.2.1 _ (List.mem_cons_of_mem _ hin)⟩ ⟨mz_pre_blind, fun U hU hW => mz_preOf hI hU hW⟩ rfl rfl hl.1 rfl (lv_room hst) hd ⟨show cells + m1 ≤ mc by omega, show slots + m2 ≤ ms by omega⟩)
theorem mz_callI {mm' : MzT} {idx : Nat} {As : List Value} {a : Nat} (m1 m2 : Nat) (hd : decode mm.2.1 pc = .ok (.invokespecial idx, 3)) (hcs : mzCall mm mm' As.length) (hw : Cond.methodLink mm.1.cls idx mm'.1 ∈ mzAll) (hin : Cond.instanceMethod mm'.1 ∈ mzAll) (hnm : mm'.1.name = "<init>") (hre : mm'.2.2.2 = none) (hst : (st.map fun v => v.category).sum ≤ 8) (hb1 : m1 ≤ bu.1) (hb2 : m2 ≤ bu.2)
    (h : MzC G B d mm' (.ref a :: As) M (m1, m2) (fun r B' M' => ∃ v, r = .inl v ∧ MzS G B' (d + 1) mm M' (bu.1 - m1, bu.2 - m2) Q (pc + 3) lv (v.toList ++ st))) : MzS G B (d + 1) mm M bu Q pc lv (As.reverse ++ .ref a :: st) := by
  intro p l e mc ms s m args below meth c A H locs cells slots ls hX hl hI c1 c2
  refine mz_back hX hl hI c1 c2 hb1 hb2 (va_runI (y := mm'.1) (bytes := mm'.2.1) (maxL := mm'.2.2.1) (ws := mzWs mm') (rm := mzRm d m1 m2) (As := As) (rest := st) (nL := mm.2.2.1) (Ts := mzWs mm) (own := mm.1.cls) (n := As.length) ⟨hX.1, hX.2.1, hX.2.2.1, hX.2.2.2.2.2.1, hX.2.2.2.2.1⟩ (h l H.size) ⟨callB_of As.length hX.2.2.2.2.1 (mz_good hcs.2.1) (by rw [mzWs, hre]) rfl rfl (hX.2.2.2.2.1 _ (List.mem_cons_of_mem _ hcs.1)) (hX.2.2.2.2.1 _ (List.mem_cons_of_mem _ hw)) hcs.2.2.1 ⟨Nat.le_refl _, show 8 + (mm'.2.2.1 + 11) + 46 * d ≤ 46 * (d + 1) by have := hcs.2.2.2; omega⟩, hnm, hX.2.2.2.2.1 _ (List.mem_cons_of_mem _ hin)⟩ ⟨mz_pre_blind, fun U hU hW => mz_preOf hI hU hW⟩ rfl rfl hl.1 rfl (lv_room hst) hd ⟨show cells + m1 ≤ mc by omega, show slots + m2 ≤ ms by omega⟩)
theorem mz_callVN {mm' : MzT} {idx : Nat} {As : List Value} {i : MzL} {ci : Nat} {T : u_T} {N : Nat} (hi : i ∈ mz_dm B) (hkd : mzKd i = .inl ci) (hcl : vwCl[ci]? = some (mm'.1.cls, T, N)) (m1 m2 : Nat) (hd : decode mm.2.1 pc = .ok (.invokevirtual idx, 3)) (hcs : mzCall mm mm' As.length) {host : String} (hw : mzNw (.methodLinkNest mm.1.cls idx mm'.1 host) ∈ mzRo) (hin : Cond.instanceMethod mm'.1 ∈ mzAll) (hse : Cond.selects mm'.1.cls mm'.1 mm'.1 ∈ mzAll) (hst : (st.map fun v => v.category).sum ≤ 8) (hb1 : m1 ≤ bu.1) (hb2 : m2 ≤ bu.2)
    (h : MzC G B d mm' (.ref (mz_ad B i) :: As) M (m1, m2) (fun r B' M' => ∃ v, r = .inl v ∧ MzS G B' (d + 1) mm M' (bu.1 - m1, bu.2 - m2) Q (pc + 3) lv (v.toList ++ st))) : MzS G B (d + 1) mm M bu Q pc lv (As.reverse ++ .ref (mz_ad B i) :: st) := by
  intro p l e mc ms s m args below meth c A H locs cells slots ls hX hl hI c1 c2
  obtain ⟨q0, -, hq0⟩ := mz_pl M hi
  rw [mz_ce_o hkd] at hq0
  refine mz_back hX hl hI c1 c2 hb1 hb2 (va_runVN (y := mm'.1) (bytes := mm'.2.1) (maxL := mm'.2.2.1) (ret := mm'.2.2.2) (ws := mzWs mm') (rm := mzRm d m1 m2) (C := mm'.1.cls) (As := As) (rest := st) (nL := mm.2.2.1) (Ts := mzWs mm) (own := mm.1.cls) (n := As.length) ⟨hX.1, hX.2.1, hX.2.2.1, hX.2.2.2.2.2.1, hX.2.2.2.2.1⟩ (h l H.size) ⟨va_cnB As.length hX.2.2.2.2.1 (mz_good hcs.2.1) rfl rfl rfl (hI.2.2.2.2.2 _ hw).2 (hX.2.2.2.2.1 _ (List.mem_cons_of_mem _ hcs.1)) hcs.2.2.1 ⟨Nat.le_refl _, show 8 + (mm'.2.2.1 + 11) + 46 * d ≤ 46 * (d + 1) by have := hcs.2.2.2; omega⟩, hX.2.2.2.2.1 _ (List.mem_cons_of_mem _ hin), hX.2.2.2.2.1 _ (List.mem_cons_of_mem _ hse)⟩ ⟨mz_pre_blind, va_recv hI.1 hI.2.1 hcl hq0, fun U hU hW => mz_preOf hI hU hW⟩ rfl rfl hl.1 rfl (lv_room hst) hd ⟨show cells + m1 ≤ mc by omega, show slots + m2 ≤ ms by omega⟩)
theorem mz_callSN {mm' : MzT} {idx : Nat} {As : List Value} (m1 m2 : Nat) (hd : decode mm.2.1 pc = .ok (.invokestatic idx, 3)) (hcs : mzCall mm mm' As.length) {host : String} (hw : mzNw (.methodLinkNest mm.1.cls idx mm'.1 host) ∈ mzRo) (hin : Cond.static mm'.1 ∈ mzAll) (hst : (st.map fun v => v.category).sum ≤ 8) (hb1 : m1 ≤ bu.1) (hb2 : m2 ≤ bu.2)
    (h : MzC G B d mm' As M (m1, m2) (fun r B' M' => ∃ v, r = .inl v ∧ MzS G B' (d + 1) mm M' (bu.1 - m1, bu.2 - m2) Q (pc + 3) lv (v.toList ++ st))) : MzS G B (d + 1) mm M bu Q pc lv (As.reverse ++ st) := by
  intro p l e mc ms s m args below meth c A H locs cells slots ls hX hl hI c1 c2
  refine mz_back hX hl hI c1 c2 hb1 hb2 (va_runSN (y := mm'.1) (bytes := mm'.2.1) (maxL := mm'.2.2.1) (ret := mm'.2.2.2) (ws := mzWs mm') (rm := mzRm d m1 m2) (As := As) (rest := st) (nL := mm.2.2.1) (Ts := mzWs mm) (own := mm.1.cls) (n := As.length) ⟨hX.1, hX.2.1, hX.2.2.1, hX.2.2.2.2.2.1, hX.2.2.2.2.1⟩ (h l H.size) ⟨va_cnB As.length hX.2.2.2.2.1 (mz_good hcs.2.1) rfl rfl rfl (hI.2.2.2.2.2 _ hw).2 (hX.2.2.2.2.1 _ (List.mem_cons_of_mem _ hcs.1)) hcs.2.2.1 ⟨Nat.le_refl _, show 8 + (mm'.2.2.1 + 11) + 46 * d ≤ 46 * (d + 1) by have := hcs.2.2.2; omega⟩, hX.2.2.2.2.1 _ (List.mem_cons_of_mem _ hin), trivial⟩ ⟨mz_pre_blind, fun U hU hW => mz_preOf hI hU hW⟩ rfl rfl hl.1 rfl (lv_room hst) hd ⟨show cells + m1 ≤ mc by omega, show slots + m2 ≤ ms by omega⟩)
theorem mz_callIN {mm' : MzT} {idx : Nat} {As : List Value} {a : Nat} (m1 m2 : Nat) (hd : decode mm.2.1 pc = .ok (.invokespecial idx, 3)) (hcs : mzCall mm mm' As.length) {host : String} (hw : mzNw (.methodLinkNest mm.1.cls idx mm'.1 host) ∈ mzRo) (hin : Cond.instanceMethod mm'.1 ∈ mzAll) (hnm : mm'.1.name = "<init>") (hre : mm'.2.2.2 = none) (hst : (st.map fun v => v.category).sum ≤ 8) (hb1 : m1 ≤ bu.1) (hb2 : m2 ≤ bu.2)
    (h : MzC G B d mm' (.ref a :: As) M (m1, m2) (fun r B' M' => ∃ v, r = .inl v ∧ MzS G B' (d + 1) mm M' (bu.1 - m1, bu.2 - m2) Q (pc + 3) lv (v.toList ++ st))) : MzS G B (d + 1) mm M bu Q pc lv (As.reverse ++ .ref a :: st) := by
  intro p l e mc ms s m args below meth c A H locs cells slots ls hX hl hI c1 c2
  refine mz_back hX hl hI c1 c2 hb1 hb2 (va_runIN (y := mm'.1) (bytes := mm'.2.1) (maxL := mm'.2.2.1) (ws := mzWs mm') (rm := mzRm d m1 m2) (As := As) (rest := st) (nL := mm.2.2.1) (Ts := mzWs mm) (own := mm.1.cls) (n := As.length) ⟨hX.1, hX.2.1, hX.2.2.1, hX.2.2.2.2.2.1, hX.2.2.2.2.1⟩ (h l H.size) ⟨va_cnB As.length hX.2.2.2.2.1 (mz_good hcs.2.1) (by rw [mzWs, hre]) rfl rfl (hI.2.2.2.2.2 _ hw).2 (hX.2.2.2.2.1 _ (List.mem_cons_of_mem _ hcs.1)) hcs.2.2.1 ⟨Nat.le_refl _, show 8 + (mm'.2.2.1 + 11) + 46 * d ≤ 46 * (d + 1) by have := hcs.2.2.2; omega⟩, hnm, hX.2.2.2.2.1 _ (List.mem_cons_of_mem _ hin)⟩ ⟨mz_pre_blind, fun U hU hW => mz_preOf hI hU hW⟩ rfl rfl hl.1 rfl (lv_room hst) hd ⟨show cells + m1 ≤ mc by omega, show slots + m2 ≤ ms by omega⟩)
end MzRules
/-! what the methods' texts use -/
def mzSub (lv : List (Nat × Value)) : List (Nat × Value) → Prop
  | [] => True
  | q :: r => mz_lk lv q.1 = some q.2 ∧ mzSub lv r
theorem mzSub_all {lv : List (Nat × Value)} : ∀ {lv' : List (Nat × Value)}, mzSub lv lv' → ∀ q ∈ lv', mz_lk lv q.1 = some q.2
  | [], _, _, h => by cases h
  | _ :: _, h, q, hq => by
    rcases List.mem_cons.mp hq with rfl | hq
    · exact h.1
    · exact mzSub_all h.2 q hq
theorem MzS.loc {G : MzG} {B : MzB} {d : Nat} {mm : MzT} {M : MzM} {bu : Nat × Nat} {Q : MzR → MzB → MzM → Prop} {pc : Nat} {lv : List (Nat × Value)} {st : List Value} (lv' : List (Nat × Value)) (hs : mzSub lv lv') (h : MzS G B d mm M bu Q pc lv' st) : MzS G B d mm M bu Q pc lv st := MzS.locals lv' (mzSub_all hs) h
/-- g: which half of the labels is meant (false: the class, true: the reference) -/
def mzLive (g : Bool) (B : MzB) : Prop := ∀ t n, decide (30 ≤ t) = g → n < mzCnt t → (t, n) ∈ mz_dm B
def mzLnk (g : Bool) (M : MzM) : Prop := ∀ (i : MzL) (k : Nat) (j : MzL), decide (30 ≤ i.1) = g → mzLk i k = some j → i.2 < mzCnt i.1 → mz_r M i k = some j
theorem mzLnk.sr {g : Bool} {M : MzM} {i : MzL} {k : Nat} {x : Option MzL} (h : mzLnk g M) (hk : mzLk i k = none) : mzLnk g (mz_sr M i k x) := by
  intro a b j hg hj ha
  rw [mz_r_sr, if_neg]
  · exact h a b j hg hj ha
  · rintro ⟨rfl, rfl⟩
    rw [hk] at hj
    cases hj
theorem mz_bo {x : Int32} (h : x = 0 ∨ x = 1) : narrow .boolean (.int x) = .int x ∧ fits .boolean (.int x) = true := by
  rcases h with rfl | rfl <;> decide
theorem mz_boN {x : Int32} (h : x = 0 ∨ x = 1) : vp_nar .boolean x = x := by
  rcases h with rfl | rfl <;> decide
theorem mzClOf {ci : Nat} {C : String} {T : u_T} {N : Nat} {ty : Nat → FieldType} (h : mzCl ci C T N ty) : vwCl[ci]? = some (C, T, N) := h.1
/-- a method's end in its caller's words: nothing, an int -/
def mzK0 (g : Bool) (B : MzB) (K : MzM → Prop) : MzR → MzB → MzM → Prop := fun r B' M' => B = B' ∧ mzLnk g M' ∧ r = .inl none ∧ K M'
def mzK1 (g : Bool) (B : MzB) (K : Int32 → MzM → Prop) : MzR → MzB → MzM → Prop := fun r B' M' => B = B' ∧ mzLnk g M' ∧ ∃ v : Int32, r = .inl (some (.int v)) ∧ K v M'

