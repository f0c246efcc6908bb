section MzRoRules
variable {g : Bool} {G : MzG} {B : MzB} {d : Nat} {mm : MzT} {M : MzM} {bu : Nat × Nat} {Q : MzR → MzB → MzM → Prop} {pc : Nat} {lv : List (Nat × Value)} {st : List Value}
theorem mz_u {f : MzF} {A : Nat → Prop} {s : State} {H : Heap} (hr : mz_ro mzRo G A s H) (hf : f ∈ mzRo) : f G.2 A s H := (hr f hf).2
theorem mz_cmdIn {c : Nat} (h : c < 21) : mzCmd c ∈ mzRo := List.mem_append_right _ (List.mem_append_right _ (List.mem_append_left _ (List.mem_map.mpr ⟨c, List.mem_range.mpr h, rfl⟩)))
theorem mz_strIn {k : Nat} (h : k < 44) : mzStr k ∈ mzRo := List.mem_append_right _ (List.mem_append_right _ (List.mem_append_right _ (List.mem_map.mpr ⟨k, List.mem_range.mpr h, rfl⟩)))
theorem mz_fixIn {f : MzF} (k : Nat) (h : ([mzAo "ParcelLine$Node", mzAo "ParcelLine$Session", mzAo "ParcelLine$ByteRow", mzAllZ, mzSwZ, mzCsZ, mzNeZ, mzRefZ "java/lang/Throwable" "UNASSIGNED_STACK" "[Ljava/lang/StackTraceElement;", mzRefZ "java/lang/Throwable" "SUPPRESSED_SENTINEL" "Ljava/util/List;", mzRefZ "jdk/internal/util/Preconditions" "SIOOBE_FORMATTER" "Ljava/util/function/BiFunction;", mzLs "java/lang/Throwable" "UNASSIGNED_STACK" "[Ljava/lang/StackTraceElement;", mzLs "java/lang/Throwable" "SUPPRESSED_SENTINEL" "Ljava/util/List;", mzNw (.castable "java/lang/IllegalArgumentException" "java/lang/IllegalArgumentException"), mzNw (.castable "java/lang/IllegalStateException" "java/lang/IllegalStateException"), mzNw (.castable "java/util/NoSuchElementException" "java/util/NoSuchElementException"), mzNc "java/lang/IllegalStateException" "java/lang/IllegalArgumentException", mzNc "java/util/NoSuchElementException" "java/lang/IllegalArgumentException"] : List MzF)[k]? = some f) : f ∈ mzRo := List.mem_append_right _ (List.mem_append_left _ (List.mem_of_getElem? h))
theorem mz_getF {o n ds : String} {idx q : Nat} {v : Value} (hd : decode mm.2.1 pc = .ok (.getfield idx, 3)) (hw : Cond.fieldLink mm.1.cls idx o n ds ∈ mzAll) (hf : ∀ (A : Nat → Prop) (s : State), mz_ro mzRo G A s s.heap → va_OF o n ds v q A s s.heap) (h : MzS G B d mm M bu Q (pc + 3) lv (v :: st)) : MzS G B d mm M bu Q pc lv (.ref q :: st) :=
  fun p l e mc ms s m args below meth c A H locs cells slots ls hX hl hI c1 c2 => vk_getf hX.1 hX.2.1 (hf A s hI.2.2.2.2.2) hI.2.2.2.1 hX.2.2.2.2.2.1 (hX.2.2.2.2.1 _ (List.mem_cons_of_mem _ hw)) (fun _ h9 => h9) hd (h p l e mc ms s m args below meth c A H locs cells slots ls hX hl hI c1 c2)
theorem mz_getFN {o n ds host : String} {idx q : Nat} {v : Value} (hd : decode mm.2.1 pc = .ok (.getfield idx, 3)) (hw : mzNw (.fieldLinkNest mm.1.cls idx o n ds host) ∈ mzRo) (hf : ∀ (A : Nat → Prop) (s : State), mz_ro mzRo G A s s.heap → va_OF o n ds v q A s s.heap) (h : MzS G B d mm M bu Q (pc + 3) lv (v :: st)) : MzS G B d mm M bu Q pc lv (.ref q :: st) := by
  intro p l e mc ms s m args below meth c A H locs cells slots ls hX hl hI c1 c2
  obtain ⟨cf, k, fi, f, cell, h1, h2, h3, h4, h5, h6⟩ := (hf A s hI.2.2.2.2.2).kept hI.2.2.2.1.2.1
  exact va_Wgetf hX.1 hX.2.1 hX.2.2.2.2.2.1 (va_Nw.use rfl (hI.2.2.2.2.2 _ hw).2) h1 h2 h3 h4 (v := v) h5 rfl rfl hd (h p l e mc ms s m args below meth c A H locs cells slots ls hX hl hI c1 c2)
theorem mz_gets {C n ds : String} {idx : Nat} {v : Value} (hd : decode mm.2.1 pc = .ok (.getstatic idx, 3)) (hw : Cond.fieldLink mm.1.cls idx C n ds ∈ mzAll) (hz : ∀ (A : Nat → Prop) (s : State), mz_ro mzRo G A s s.heap → va_Z C n ds v A s s.heap) (h : MzS G B d mm M bu Q (pc + 3) lv (v :: st)) : MzS G B d mm M bu Q pc lv st :=
  fun p l e mc ms s m args below meth c A H locs cells slots ls hX hl hI c1 c2 => va_gets hX.1 hX.2.1 (hz A s hI.2.2.2.2.2) hI.2.2.2.1 hX.2.2.2.2.2.1 (hX.2.2.2.2.1 _ (List.mem_cons_of_mem _ hw)) (fun _ h9 => h9) hd (h p l e mc ms s m args below meth c A H locs cells slots ls hX hl hI c1 c2)
theorem mz_getsN {C n ds host : String} {idx : Nat} {v : Value} (hd : decode mm.2.1 pc = .ok (.getstatic idx, 3)) (hw : mzNw (.fieldLinkNest mm.1.cls idx C n ds host) ∈ mzRo) (hz : ∀ (A : Nat → Prop) (s : State), mz_ro mzRo G A s s.heap → va_Z C n ds v A s s.heap) (h : MzS G B d mm M bu Q (pc + 3) lv (v :: st)) : MzS G B d mm M bu Q pc lv st :=
  fun p l e mc ms s m args below meth c A H locs cells slots ls hX hl hI c1 c2 => va_getsN hX.1 hX.2.1 (hz A s hI.2.2.2.2.2) hI.2.2.2.1 hX.2.2.2.2.2.1 (va_Nw.use rfl (hI.2.2.2.2.2 _ hw).2) (fun _ h9 => h9) hd (h p l e mc ms s m args below meth c A H locs cells slots ls hX hl hI c1 c2)
theorem mz_getsX {C n ds : String} {idx : Nat} (hd : decode mm.2.1 pc = .ok (.getstatic idx, 3)) (hw : Cond.fieldLink mm.1.cls idx C n ds ∈ mzAll) (hz : mzRefZ C n ds ∈ mzRo) (h : ∀ v : Value, v.isRef = true → MzS G B d mm M bu Q (pc + 3) lv (v :: st)) : MzS G B d mm M bu Q pc lv st := by
  intro p l e mc ms s m args below meth c A H locs cells slots ls hX hl hI c1 c2
  obtain ⟨v, hv, hz⟩ := mz_u hI.2.2.2.2.2 hz
  exact va_gets hX.1 hX.2.1 hz hI.2.2.2.1 hX.2.2.2.2.2.1 (hX.2.2.2.2.1 _ (List.mem_cons_of_mem _ hw)) (fun _ h9 => h9) hd (h v hv p l e mc ms s m args below meth c A H locs cells slots ls hX hl hI c1 c2)
theorem mz_rlen {ty : FieldType} {t N : Nat} {f : Nat → Value} (v : Int32) (hd : decode mm.2.1 pc = .ok (.arraylength, 1)) (hT : ∀ (A : Nat → Prop) (s : State), mz_ro mzRo G A s s.heap → va_T ty t N f A s s.heap) (hv : Int32.ofNat N = v) (h : MzS G B d mm M bu Q (pc + 1) lv (.int v :: st)) : MzS G B d mm M bu Q pc lv (.ref t :: st) :=
  fun p l e mc ms s m args below meth c A H locs cells slots ls hX hl hI c1 c2 => va_tlen hX.1 hX.2.1 (hT A s hI.2.2.2.2.2) hI.2.2.2.1 hv hd (h p l e mc ms s m args below meth c A H locs cells slots ls hX hl hI c1 c2)
theorem mz_riald {t N : Nat} {f : Nat → Value} {x : Int32} (j : Nat) {v : Value} (hd : decode mm.2.1 pc = .ok (.iaload, 1)) (hT : ∀ (A : Nat → Prop) (s : State), mz_ro mzRo G A s s.heap → va_T .int t N f A s s.heap) (hj : x.toInt = (j : Int)) (hn : j < N) (hv : f j = v) (h : MzS G B d mm M bu Q (pc + 1) lv (v :: st)) : MzS G B d mm M bu Q pc lv (.int x :: .ref t :: st) := by
  intro p l e mc ms s m args below meth c A H locs cells slots ls hX hl hI c1 c2
  obtain ⟨g1, g2⟩ := mz_ix hj hn
  exact va_ti hX.1 hX.2.1 (hT A s hI.2.2.2.2.2) hI.2.2.2.1 g1 (by rw [g2]; exact hv) hd (h p l e mc ms s m args below meth c A H locs cells slots ls hX hl hI c1 c2)
theorem mz_rbald {t N : Nat} {f : Nat → Value} {x : Int32} (j : Nat) {v : Value} (hd : decode mm.2.1 pc = .ok (.baload, 1)) (hT : ∀ (A : Nat → Prop) (s : State), mz_ro mzRo G A s s.heap → va_T .byte t N f A s s.heap) (hj : x.toInt = (j : Int)) (hn : j < N) (hv : f j = v) (h : MzS G B d mm M bu Q (pc + 1) lv (v :: st)) : MzS G B d mm M bu Q pc lv (.int x :: .ref t :: st) := by
  intro p l e mc ms s m args below meth c A H locs cells slots ls hX hl hI c1 c2
  obtain ⟨g1, g2⟩ := mz_ix hj hn
  exact va_tb hX.1 hX.2.1 (hT A s hI.2.2.2.2.2) hI.2.2.2.1 g1 (by rw [g2]; exact hv) hd (h p l e mc ms s m args below meth c A H locs cells slots ls hX hl hI c1 c2)
theorem mz_raald {C : String} {t N : Nat} {f : Nat → Value} {x : Int32} (j : Nat) {v : Value} (hd : decode mm.2.1 pc = .ok (.aaload, 1)) (hT : ∀ (A : Nat → Prop) (s : State), mz_ro mzRo G A s s.heap → va_T (.object C) t N f A s s.heap) (hj : x.toInt = (j : Int)) (hn : j < N) (hv : f j = v) (h : MzS G B d mm M bu Q (pc + 1) lv (v :: st)) : MzS G B d mm M bu Q pc lv (.int x :: .ref t :: st) := by
  intro p l e mc ms s m args below meth c A H locs cells slots ls hX hl hI c1 c2
  obtain ⟨g1, g2⟩ := mz_ix hj hn
  exact vb_tq hX.1 hX.2.1 (hT A s hI.2.2.2.2.2) hI.2.2.2.1 g1 (by rw [g2]; exact hv) hd (h p l e mc ms s m args below meth c A H locs cells slots ls hX hl hI c1 c2)
theorem mz_ldcS {idx q : Nat} {tx : String} (hd : decode mm.2.1 pc = .ok (.ldc idx, 2)) (hz : ∀ (A : Nat → Prop) (s : State), mz_ro mzRo G A s s.heap → vk_R mm.1.cls idx tx q s) (h : MzS G B d mm M bu Q (pc + 2) lv (.ref q :: st)) : MzS G B d mm M bu Q pc lv st :=
  fun p l e mc ms s m args below meth c A H locs cells slots ls hX hl hI c1 c2 => va_ldcS hX.1 hX.2.1 hX.2.2.2.2.2.1 (hz A s hI.2.2.2.2.2) hd (h p l e mc ms s m args below meth c A H locs cells slots ls hX hl hI c1 c2)
theorem mz_ldcwS0 {p : Program} {l : Launch} {e : Env} {R : Room} {s : State} {m : MethodId} {args : Array Value} {below : List Frame} {meth : Method} {c : Code} {T : State} {locs : List Loc} {cells slots : Nat}
    (X : Stand p l e R s m args below meth c T locs cells slots) (hexec : p.tables.exec = Jvm.exec) {own text : String} {index : Nat} {a : Addr} (hown : s.vm.findClass own = some m.cls)
    (hconst : (Cond.stringRef own index text).before args s = true) (hev : (Term.string own index).eval args s none [] s = some (.ref a)) {g : JFrame} (hg : g.method = m) (hdg : decode c.code g.pc = .ok (.ldc_w index, 3)) :
    ∀ target, Steps p.tables e below (T.setTop { g with pc := g.pc + 3, stack := .ref a :: g.stack }) target → Steps p.tables e below (T.setTop g) target := by
  obtain ⟨k, cf, i, a', hk, hcf, hcp, -, hr, hev'⟩ := Cond.stringRef_spec hown hconst
  cases hev.symm.trans hev'
  obtain ⟨k', hk', he⟩ := X.warmed.alike.2.2 _ _ hk
  have hr' : k'.resolved[index]? = some (some (.string a)) := by
    rcases X.warmed.entry hk hk' index with h | ⟨h, -⟩
    · rw [h]; exact hr
    · rw [hr] at h; cases h
  intro target hrest
  subst hg
  jvm_step X.here [hexec, hdg, ldc_w.wp_string (e := e) (s := T) (f := g) X.here.top hk' (by rw [he]; exact hcf) hcp hr']
  exact hrest
theorem mz_ldcwS {idx q : Nat} {tx : String} (hd : decode mm.2.1 pc = .ok (.ldc_w idx, 3)) (hz : ∀ (A : Nat → Prop) (s : State), mz_ro mzRo G A s s.heap → vk_R mm.1.cls idx tx q s) (h : MzS G B d mm M bu Q (pc + 3) lv (.ref q :: st)) : MzS G B d mm M bu Q pc lv st := by
  intro p l e mc ms s m args below meth c A H locs cells slots ls hX hl hI c1 c2 T hT X
  obtain ⟨t, a1, b1⟩ := h p l e mc ms s m args below meth c A H locs cells slots ls hX hl hI c1 c2 T hT X
  have hZ := hz A s hI.2.2.2.2.2
  exact ⟨t, mz_ldcwS0 X hX.1 hX.2.2.2.2.2.1 (text := tx) (a := q) hZ.1 hZ.2 (g := F0 m pc ls st) rfl (by rw [hX.2.1]; exact hd) t a1, b1⟩
theorem mz_callR {mm' : MzT} {idx : Nat} {As : List Value} {q : Nat} (m1 m2 : Nat) (hd : decode mm.2.1 pc = .ok (.invokevirtual idx, 3)) (hcs : mzCall mm mm' As.length) (hw : Cond.methodLink mm.1.cls idx mm'.1 ∈ mzAll) (hin : Cond.instanceMethod mm'.1 ∈ mzAll) (hse : Cond.selects mm'.1.cls mm'.1 mm'.1 ∈ mzAll) (ho : ∀ (A : Nat → Prop) (s : State), mz_ro mzRo G A s s.heap → va_O mm'.1.cls q A s s.heap) (hst : (st.map fun v => v.category).sum ≤ 8) (hb1 : m1 ≤ bu.1) (hb2 : m2 ≤ bu.2)
    (h : MzC G B d mm' (.ref q :: As) M (m1, m2) (fun r B' M' => ∃ v, r = .inl v ∧ MzS G B' (d + 1) mm M' (bu.1 - m1, bu.2 - m2) Q (pc + 3) lv (v.toList ++ st))) : MzS G B (d + 1) mm M bu Q pc lv (As.reverse ++ .ref q :: st) := by
  intro p l e mc ms s m args below meth c A H locs cells slots ls hX hl hI c1 c2
  obtain ⟨cell, k1, k2, k3, -⟩ := (ho A s hI.2.2.2.2.2).kept hI.2.2.2.1.2.1
  refine mz_back hX hl hI c1 c2 hb1 hb2 (va_runV (y := mm'.1) (bytes := mm'.2.1) (maxL := mm'.2.2.1) (ret := mm'.2.2.2) (ws := mzWs mm') (rm := mzRm d m1 m2) (C := mm'.1.cls) (As := As) (rest := st) (nL := mm.2.2.1) (Ts := mzWs mm) (own := mm.1.cls) (n := As.length) ⟨hX.1, hX.2.1, hX.2.2.1, hX.2.2.2.2.2.1, hX.2.2.2.2.1⟩ (h l H.size) ⟨callB_of As.length hX.2.2.2.2.1 (mz_good hcs.2.1) rfl rfl rfl (hX.2.2.2.2.1 _ (List.mem_cons_of_mem _ hcs.1)) (hX.2.2.2.2.1 _ (List.mem_cons_of_mem _ hw)) hcs.2.2.1 ⟨Nat.le_refl _, show 8 + (mm'.2.2.1 + 11) + 46 * d ≤ 46 * (d + 1) by have := hcs.2.2.2; omega⟩, hX.2.2.2.2.1 _ (List.mem_cons_of_mem _ hin), hX.2.2.2.2.1 _ (List.mem_cons_of_mem _ hse)⟩ ⟨mz_pre_blind, ⟨cell, k1, k2, k3⟩, fun U hU hW => mz_preOf hI hU hW⟩ rfl rfl hl.1 rfl (lv_room hst) hd ⟨show cells + m1 ≤ mc by omega, show slots + m2 ≤ ms by omega⟩)
theorem mz_acmpC_eq {c9 e9 : Nat} (hc : c9 < 21) (he : e9 < 21) {off : Int} (tgt : Nat) (hd : decode mm.2.1 pc = .ok (.if_acmp .eq off, 3)) (ht : (pc : Int) + off = (tgt : Int)) (kt : c9 = e9 → MzS G B d mm M bu Q tgt lv st) (kf : ¬ c9 = e9 → MzS G B d mm M bu Q (pc + 3) lv st) : MzS G B d mm M bu Q pc lv (.ref (G.2 e9) :: .ref (G.2 c9) :: st) := by
  intro p l e mc ms s m args below meth c A H locs cells slots ls hX hl hI c1 c2
  have hne : mzNeZ G.2 A s s.heap := mz_u hI.2.2.2.2.2 (mz_fixIn 6 rfl)
  exact lv_acmp_eq (rx := some (G.2 c9)) (ry := some (G.2 e9)) hX.1 hX.2.1 hd ht (fun h => kt (hne _ _ hc he (Option.some.inj h)) p l e mc ms s m args below meth c A H locs cells slots ls hX hl hI c1 c2) (fun h => kf (fun h2 => h (by rw [h2])) p l e mc ms s m args below meth c A H locs cells slots ls hX hl hI c1 c2)
theorem mz_acmpC_ne {c9 e9 : Nat} (hc : c9 < 21) (he : e9 < 21) {off : Int} (tgt : Nat) (hd : decode mm.2.1 pc = .ok (.if_acmp .ne off, 3)) (ht : (pc : Int) + off = (tgt : Int)) (kt : ¬ c9 = e9 → MzS G B d mm M bu Q tgt lv st) (kf : c9 = e9 → MzS G B d mm M bu Q (pc + 3) lv st) : MzS G B d mm M bu Q pc lv (.ref (G.2 e9) :: .ref (G.2 c9) :: st) := by
  intro p l e mc ms s m args below meth c A H locs cells slots ls hX hl hI c1 c2
  have hne : mzNeZ G.2 A s s.heap := mz_u hI.2.2.2.2.2 (mz_fixIn 6 rfl)
  exact lv_acmp_ne (rx := some (G.2 c9)) (ry := some (G.2 e9)) hX.1 hX.2.1 hd ht (fun h => kt (fun h2 => h (by rw [h2])) p l e mc ms s m args below meth c A H locs cells slots ls hX hl hI c1 c2) (fun h => kf (hne _ _ hc he (Option.some.inj h)) p l e mc ms s m args below meth c A H locs cells slots ls hX hl hI c1 c2)
theorem mz_acmpN_eq {e9 : Nat} {off : Int} (hd : decode mm.2.1 pc = .ok (.if_acmp .eq off, 3)) (tgt : Nat) (ht : (pc : Int) + off = (tgt : Int)) (h : MzS G B d mm M bu Q (pc + 3) lv st) : MzS G B d mm M bu Q pc lv (.ref e9 :: .null :: st) :=
  fun p l e mc ms s m args below meth c A H locs cells slots ls hX hl hI c1 c2 => lv_acmp_eq (rx := none) (ry := some e9) hX.1 hX.2.1 hd ht (fun h9 => by cases h9) (fun _ => (h p l e mc ms s m args below meth c A H locs cells slots ls hX hl hI c1 c2))
theorem mz_acmpN_ne {e9 : Nat} {off : Int} (tgt : Nat) (hd : decode mm.2.1 pc = .ok (.if_acmp .ne off, 3)) (ht : (pc : Int) + off = (tgt : Int)) (h : MzS G B d mm M bu Q tgt lv st) : MzS G B d mm M bu Q pc lv (.ref e9 :: .null :: st) :=
  fun p l e mc ms s m args below meth c A H locs cells slots ls hX hl hI c1 c2 => lv_acmp_ne (rx := none) (ry := some e9) hX.1 hX.2.1 hd ht (fun _ => (h p l e mc ms s m args below meth c A H locs cells slots ls hX hl hI c1 c2)) (fun h9 => by cases h9)
def mm_JS_coder : MzT := (⟨"java/lang/String", "coder", "()B"⟩, prog_20_method_152_code, 1, some .byte)
theorem cs_JS_coder {mm : MzT} : mzCall mm mm_JS_coder 0 := ⟨wn_JS, wco_JS_coder, by decide +kernel, by decide⟩
theorem d_JS_coder_0 : decode mm_JS_coder.2.1 0 = .ok (.getstatic 38, 3) := by decide +kernel
theorem d_JS_coder_3 : decode mm_JS_coder.2.1 3 = .ok (.ifCond .eq 10, 3) := by decide +kernel
theorem d_JS_coder_6 : decode mm_JS_coder.2.1 6 = .ok (.aload_n 0, 1) := by decide +kernel
theorem d_JS_coder_7 : decode mm_JS_coder.2.1 7 = .ok (.getfield 15, 3) := by decide +kernel
theorem d_JS_coder_10 : decode mm_JS_coder.2.1 10 = .ok (.goto 4, 3) := by decide +kernel
theorem d_JS_coder_13 : decode mm_JS_coder.2.1 13 = .ok (.iconst 1, 1) := by decide +kernel
theorem d_JS_coder_14 : decode mm_JS_coder.2.1 14 = .ok (.ireturn, 1) := by decide +kernel
def mm_JS_isLatin1 : MzT := (⟨"java/lang/String", "isLatin1", "()Z"⟩, prog_20_method_154_code, 1, some .boolean)
theorem cs_JS_isLatin1 {mm : MzT} : mzCall mm mm_JS_isLatin1 0 := ⟨wn_JS, wco_JS_isLatin1, by decide +kernel, by decide⟩
theorem d_JS_isLatin1_0 : decode mm_JS_isLatin1.2.1 0 = .ok (.getstatic 38, 3) := by decide +kernel
theorem d_JS_isLatin1_3 : decode mm_JS_isLatin1.2.1 3 = .ok (.ifCond .eq 14, 3) := by decide +kernel
theorem d_JS_isLatin1_6 : decode mm_JS_isLatin1.2.1 6 = .ok (.aload_n 0, 1) := by decide +kernel
theorem d_JS_isLatin1_7 : decode mm_JS_isLatin1.2.1 7 = .ok (.getfield 15, 3) := by decide +kernel
theorem d_JS_isLatin1_10 : decode mm_JS_isLatin1.2.1 10 = .ok (.ifCond .ne 7, 3) := by decide +kernel
theorem d_JS_isLatin1_13 : decode mm_JS_isLatin1.2.1 13 = .ok (.iconst 1, 1) := by decide +kernel
theorem d_JS_isLatin1_14 : decode mm_JS_isLatin1.2.1 14 = .ok (.goto 4, 3) := by decide +kernel
theorem d_JS_isLatin1_18 : decode mm_JS_isLatin1.2.1 18 = .ok (.ireturn, 1) := by decide +kernel
def mm_JS_length : MzT := (⟨"java/lang/String", "length", "()I"⟩, prog_20_method_54_code, 1, some .int)
theorem cs_JS_length {mm : MzT} : mzCall mm mm_JS_length 0 := ⟨wn_JS, wco_JS_length, by decide +kernel, by decide⟩
theorem d_JS_length_0 : decode mm_JS_length.2.1 0 = .ok (.aload_n 0, 1) := by decide +kernel
theorem d_JS_length_1 : decode mm_JS_length.2.1 1 = .ok (.getfield 9, 3) := by decide +kernel
theorem d_JS_length_4 : decode mm_JS_length.2.1 4 = .ok (.arraylength, 1) := by decide +kernel
theorem d_JS_length_5 : decode mm_JS_length.2.1 5 = .ok (.aload_n 0, 1) := by decide +kernel
theorem d_JS_length_6 : decode mm_JS_length.2.1 6 = .ok (.invokevirtual 335, 3) := by decide +kernel
theorem d_JS_length_9 : decode mm_JS_length.2.1 9 = .ok (.ishr, 1) := by decide +kernel
theorem d_JS_length_10 : decode mm_JS_length.2.1 10 = .ok (.ireturn, 1) := by decide +kernel
def mm_JP_checkIndex : MzT := (⟨"jdk/internal/util/Preconditions", "checkIndex", "(IILjava/util/function/BiFunction;)I"⟩, prog_25_method_11_code, 3, some .int)
theorem cs_JP_checkIndex {mm : MzT} : mzCall mm mm_JP_checkIndex 3 := ⟨wn_JP, wco_JP_checkIndex, by decide +kernel, by decide⟩
theorem d_JP_checkIndex_0 : decode mm_JP_checkIndex.2.1 0 = .ok (.iload_n 0, 1) := by decide +kernel
theorem d_JP_checkIndex_1 : decode mm_JP_checkIndex.2.1 1 = .ok (.ifCond .lt 8, 3) := by decide +kernel
theorem d_JP_checkIndex_4 : decode mm_JP_checkIndex.2.1 4 = .ok (.iload_n 0, 1) := by decide +kernel
theorem d_JP_checkIndex_5 : decode mm_JP_checkIndex.2.1 5 = .ok (.iload_n 1, 1) := by decide +kernel
theorem d_JP_checkIndex_6 : decode mm_JP_checkIndex.2.1 6 = .ok (.if_icmp .lt 10, 3) := by decide +kernel
theorem d_JP_checkIndex_16 : decode mm_JP_checkIndex.2.1 16 = .ok (.iload_n 0, 1) := by decide +kernel
theorem d_JP_checkIndex_17 : decode mm_JP_checkIndex.2.1 17 = .ok (.ireturn, 1) := by decide +kernel
def mm_JS_checkIndex : MzT := (⟨"java/lang/String", "checkIndex", "(II)V"⟩, prog_20_method_155_code, 2, none)
theorem cs_JS_checkIndex {mm : MzT} : mzCall mm mm_JS_checkIndex 2 := ⟨wn_JS, wco_JS_checkIndex, by decide +kernel, by decide⟩
theorem d_JS_checkIndex_0 : decode mm_JS_checkIndex.2.1 0 = .ok (.iload_n 0, 1) := by decide +kernel
theorem d_JS_checkIndex_1 : decode mm_JS_checkIndex.2.1 1 = .ok (.iload_n 1, 1) := by decide +kernel
theorem d_JS_checkIndex_2 : decode mm_JS_checkIndex.2.1 2 = .ok (.getstatic 1053, 3) := by decide +kernel
theorem d_JS_checkIndex_5 : decode mm_JS_checkIndex.2.1 5 = .ok (.invokestatic 1059, 3) := by decide +kernel
theorem d_JS_checkIndex_8 : decode mm_JS_checkIndex.2.1 8 = .ok (.pop, 1) := by decide +kernel
theorem d_JS_checkIndex_9 : decode mm_JS_checkIndex.2.1 9 = .ok (.return_, 1) := by decide +kernel
def mm_JL_charAt : MzT := (⟨"java/lang/StringLatin1", "charAt", "([BI)C"⟩, prog_21_method_2_code, 2, some .char)
theorem cs_JL_charAt {mm : MzT} : mzCall mm mm_JL_charAt 2 := ⟨wn_JL, wco_JL_charAt, by decide +kernel, by decide⟩
theorem d_JL_charAt_0 : decode mm_JL_charAt.2.1 0 = .ok (.iload_n 1, 1) := by decide +kernel
theorem d_JL_charAt_1 : decode mm_JL_charAt.2.1 1 = .ok (.aload_n 0, 1) := by decide +kernel
theorem d_JL_charAt_2 : decode mm_JL_charAt.2.1 2 = .ok (.arraylength, 1) := by decide +kernel
theorem d_JL_charAt_3 : decode mm_JL_charAt.2.1 3 = .ok (.invokestatic 9, 3) := by decide +kernel
theorem d_JL_charAt_6 : decode mm_JL_charAt.2.1 6 = .ok (.aload_n 0, 1) := by decide +kernel
theorem d_JL_charAt_7 : decode mm_JL_charAt.2.1 7 = .ok (.iload_n 1, 1) := by decide +kernel
theorem d_JL_charAt_8 : decode mm_JL_charAt.2.1 8 = .ok (.baload, 1) := by decide +kernel
theorem d_JL_charAt_9 : decode mm_JL_charAt.2.1 9 = .ok (.sipush 255, 3) := by decide +kernel
theorem d_JL_charAt_12 : decode mm_JL_charAt.2.1 12 = .ok (.iand, 1) := by decide +kernel
theorem d_JL_charAt_13 : decode mm_JL_charAt.2.1 13 = .ok (.i2c, 1) := by decide +kernel
theorem d_JL_charAt_14 : decode mm_JL_charAt.2.1 14 = .ok (.ireturn, 1) := by decide +kernel
def mm_JS_charAt : MzT := (⟨"java/lang/String", "charAt", "(I)C"⟩, prog_20_method_56_code, 2, some .char)
theorem cs_JS_charAt {mm : MzT} : mzCall mm mm_JS_charAt 1 := ⟨wn_JS, wco_JS_charAt, by decide +kernel, by decide⟩
theorem d_JS_charAt_0 : decode mm_JS_charAt.2.1 0 = .ok (.aload_n 0, 1) := by decide +kernel
theorem d_JS_charAt_1 : decode mm_JS_charAt.2.1 1 = .ok (.invokevirtual 492, 3) := by decide +kernel
theorem d_JS_charAt_4 : decode mm_JS_charAt.2.1 4 = .ok (.ifCond .eq 12, 3) := by decide +kernel
theorem d_JS_charAt_7 : decode mm_JS_charAt.2.1 7 = .ok (.aload_n 0, 1) := by decide +kernel
theorem d_JS_charAt_8 : decode mm_JS_charAt.2.1 8 = .ok (.getfield 9, 3) := by decide +kernel
theorem d_JS_charAt_11 : decode mm_JS_charAt.2.1 11 = .ok (.iload_n 1, 1) := by decide +kernel
theorem d_JS_charAt_12 : decode mm_JS_charAt.2.1 12 = .ok (.invokestatic 495, 3) := by decide +kernel
theorem d_JS_charAt_15 : decode mm_JS_charAt.2.1 15 = .ok (.ireturn, 1) := by decide +kernel
def mm_JE_ordinal : MzT := (⟨"java/lang/Enum", "ordinal", "()I"⟩, prog_15_method_2_code, 1, some .int)
theorem cs_JE_ordinal {mm : MzT} : mzCall mm mm_JE_ordinal 0 := ⟨wn_JE, wco_JE_ordinal, by decide +kernel, by decide⟩
theorem d_JE_ordinal_0 : decode mm_JE_ordinal.2.1 0 = .ok (.aload_n 0, 1) := by decide +kernel
theorem d_JE_ordinal_1 : decode mm_JE_ordinal.2.1 1 = .ok (.getfield 7, 3) := by decide +kernel
theorem d_JE_ordinal_4 : decode mm_JE_ordinal.2.1 4 = .ok (.ireturn, 1) := by decide +kernel
theorem tm_JS_coder {K : Int32 → MzM → Prop} {k : Nat} (hk : k < 44) (hL : mzLnk g M) (h : K 0 M) : MzC G B d mm_JS_coder [.ref (G.2 (100 + k))] M (0, 0) (mzK1 g B K) :=
  MzC.of (by decide) (Nat.le_of_ble_eq_true rfl) (show MzS G B d mm_JS_coder M (0, 0) (mzK1 g B K) 0 [(0, .ref (G.2 (100 + k)))] [] from
    mz_gets d_JS_coder_0 wf_JS_38 (fun A s hr => mz_u hr (mz_fixIn 5 rfl)) (mz_if_eq 13 d_JS_coder_3 rfl (fun hc => absurd hc (by decide)) (fun _ => mz_aload_n d_JS_coder_6 rfl (mz_getF d_JS_coder_7 wf_JS_15 (fun A s hr => (mz_u hr (mz_strIn hk)).2.1) (mz_goto 14 d_JS_coder_10 rfl (mz_iret .byte d_JS_coder_14 rfl (by decide) ⟨rfl, hL, _, rfl, h⟩))))))
theorem tm_JS_isLatin1 {K : Int32 → MzM → Prop} {k : Nat} (hk : k < 44) (hL : mzLnk g M) (h : K 1 M) : MzC G B d mm_JS_isLatin1 [.ref (G.2 (100 + k))] M (0, 0) (mzK1 g B K) :=
  MzC.of (by decide) (Nat.le_of_ble_eq_true rfl) (show MzS G B d mm_JS_isLatin1 M (0, 0) (mzK1 g B K) 0 [(0, .ref (G.2 (100 + k)))] [] from
    mz_gets d_JS_isLatin1_0 wf_JS_38 (fun A s hr => mz_u hr (mz_fixIn 5 rfl)) (mz_if_eq 17 d_JS_isLatin1_3 rfl (fun hc => absurd hc (by decide)) (fun _ => mz_aload_n d_JS_isLatin1_6 rfl (mz_getF d_JS_isLatin1_7 wf_JS_15 (fun A s hr => (mz_u hr (mz_strIn hk)).2.1) (mz_if_ne 17 d_JS_isLatin1_10 rfl (fun hc => absurd rfl hc) (fun _ => mz_iconst 1 d_JS_isLatin1_13 (by decide) (mz_goto 18 d_JS_isLatin1_14 rfl (mz_iret .boolean d_JS_isLatin1_18 rfl (by decide) ⟨rfl, hL, _, rfl, h⟩)))))))) 
theorem tm_JS_length {K : Int32 → MzM → Prop} {k : Nat} (hk : k < 44) (hL : mzLnk g M) (h : K (Int32.ofNat (mzStrB.getD k []).length) M) : MzC G B (d + 1) mm_JS_length [.ref (G.2 (100 + k))] M (0, 0) (mzK1 g B K) :=
  MzC.of (by decide) (Nat.le_of_ble_eq_true rfl) (show MzS G B (d + 1) mm_JS_length M (0, 0) (mzK1 g B K) 0 [(0, .ref (G.2 (100 + k)))] [] from
    mz_aload_n d_JS_length_0 rfl (mz_getF d_JS_length_1 wf_JS_9 (fun A s hr => (mz_u hr (mz_strIn hk)).2.2.1) (mz_rlen _ d_JS_length_4 (fun A s hr => (mz_u hr (mz_strIn hk)).2.2.2.1) rfl (mz_aload_n d_JS_length_5 rfl (mz_callR (As := []) (st := [.int (Int32.ofNat (mzStrB.getD k []).length)]) 0 0 d_JS_length_6 cs_JS_coder wl_JS_335 wi_JS_coder wse_JS_coder (fun A s hr => (mz_u hr (mz_strIn hk)).1) (Nat.le_of_ble_eq_true rfl) (Nat.le_refl _) (Nat.le_refl _) (MzC.mono (tm_JS_coder (K := fun v M' => v = 0 ∧ M' = M) hk hL ⟨rfl, rfl⟩) (fun r9 B9 M1 hq => by
      obtain ⟨rfl, hL1, v, rfl, rfl, rfl⟩ := hq
      exact ⟨_, rfl, mz_ishr d_JS_length_9 (mz_iret .int d_JS_length_10 rfl rfl ⟨rfl, hL1, _, rfl, by rw [sb_shr0]; exact h⟩)⟩)))))))
theorem tm_JP_checkIndex {K : Int32 → MzM → Prop} {x n : Int32} {v : Value} (hv : v.isRef = true) (hx : ¬ x < 0) (hn : x < n) (hL : mzLnk g M) (h : K x M) : MzC G B d mm_JP_checkIndex [.int x, .int n, v] M (0, 0) (mzK1 g B K) := by
  cases v <;> first | (cases hv; done) | exact MzC.of (by decide) (Nat.le_of_ble_eq_true rfl) (mz_iload_n d_JP_checkIndex_0 rfl (mz_if_lt 9 d_JP_checkIndex_1 rfl (fun hc => absurd hc hx) (fun _ => mz_iload_n d_JP_checkIndex_4 rfl (mz_iload_n d_JP_checkIndex_5 rfl (mz_icmp_lt 16 d_JP_checkIndex_6 rfl (fun _ => mz_iload_n d_JP_checkIndex_16 rfl (mz_iret .int d_JP_checkIndex_17 rfl rfl ⟨rfl, hL, _, rfl, h⟩)) (fun hc => absurd hn hc))))))
theorem tm_JS_checkIndex {K : MzM → Prop} {x n : Int32} (hx : ¬ x < 0) (hn : x < n) (hL : mzLnk g M) (h : K M) : MzC G B (d + 1) mm_JS_checkIndex [.int x, .int n] M (0, 0) (mzK0 g B K) :=
  MzC.of (by decide) (Nat.le_of_ble_eq_true rfl) (show MzS G B (d + 1) mm_JS_checkIndex M (0, 0) (mzK0 g B K) 0 [(0, .int x), (1, .int n)] [] from
    mz_iload_n d_JS_checkIndex_0 rfl (mz_iload_n d_JS_checkIndex_1 rfl (mz_getsX d_JS_checkIndex_2 wf_JS_1053 (mz_fixIn 9 rfl) (fun v hv => mz_callS (As := [.int x, .int n, v]) (st := []) 0 0 d_JS_checkIndex_5 cs_JP_checkIndex wl_JS_1059 ws_JP_checkIndex (Nat.le_of_ble_eq_true rfl) (Nat.le_refl _) (Nat.le_refl _) (MzC.mono (tm_JP_checkIndex (K := fun _ M' => M' = M) hv hx hn hL rfl) (fun r9 B9 M1 hq => by
      obtain ⟨rfl, hL1, v1, rfl, rfl⟩ := hq
      exact ⟨_, rfl, mz_pop d_JS_checkIndex_8 rfl (mz_vret d_JS_checkIndex_9 rfl ⟨rfl, hL1, rfl, h⟩)⟩))))))
theorem mz_strCh : ∀ k, k < 44 → ∀ j, j < (mzStrB.getD k []).length → (((mzStrB.getD k []).getD j 0 &&& 255).toUInt32 % 65536).toInt32 = (mzStrB.getD k []).getD j 0 ∧ narrow .char (.int ((mzStrB.getD k []).getD j 0)) = .int ((mzStrB.getD k []).getD j 0) := by decide +kernel
theorem mz_strLen : ∀ k, k < 44 → (mzStrB.getD k []).length < 100 := by decide +kernel
theorem tm_JL_charAt {K : Int32 → MzM → Prop} {k : Nat} (hk : k < 44) {x : Int32} (j : Nat) (hj : x.toInt = (j : Int)) (hn : j < (mzStrB.getD k []).length) (hL : mzLnk g M) (h : K ((mzStrB.getD k []).getD j 0) M) : MzC G B (d + 2) mm_JL_charAt [.ref (G.2 (200 + k)), .int x] M (0, 0) (mzK1 g B K) := by
  have hx : ¬ x < 0 := fun h9 => by
    have := Int32.lt_iff_toInt_lt.mp h9
    simp at this
    omega
  have hlen := mz_strLen k hk
  have hlt : x < Int32.ofNat (mzStrB.getD k []).length := by
    rw [Int32.lt_iff_toInt_lt, hj]
    have := nI_toInt (n := (mzStrB.getD k []).length) (by omega)
    unfold nI at this
    omega
  obtain ⟨e1, e2⟩ := mz_strCh k hk j hn
  exact MzC.of (by decide) (Nat.le_of_ble_eq_true rfl) (show MzS G B (d + 2) mm_JL_charAt M (0, 0) (mzK1 g B K) 0 [(0, .ref (G.2 (200 + k))), (1, .int x)] [] from
    mz_iload_n d_JL_charAt_0 rfl (mz_aload_n d_JL_charAt_1 rfl (mz_rlen _ d_JL_charAt_2 (fun A s hr => (mz_u hr (mz_strIn hk)).2.2.2.1) rfl (mz_callS (As := [.int x, .int (Int32.ofNat (mzStrB.getD k []).length)]) (st := []) 0 0 d_JL_charAt_3 cs_JS_checkIndex wl_JL_9 ws_JS_checkIndex (Nat.le_of_ble_eq_true rfl) (Nat.le_refl _) (Nat.le_refl _) (MzC.mono (tm_JS_checkIndex (K := fun M' => M' = M) hx hlt hL rfl) (fun r9 B9 M1 hq => by
      obtain ⟨rfl, hL1, rfl, rfl⟩ := hq
      exact ⟨none, rfl, mz_aload_n d_JL_charAt_6 rfl (mz_iload_n d_JL_charAt_7 rfl (mz_rbald j d_JL_charAt_8 (fun A s hr => (mz_u hr (mz_strIn hk)).2.2.2.1) hj hn rfl (mz_sipush 255 d_JL_charAt_9 (by decide) (mz_iand d_JL_charAt_12 (mz_i2c d_JL_charAt_13 (mz_iret .char d_JL_charAt_14 rfl (by rw [e1]; exact e2) ⟨rfl, hL1, _, rfl, by rw [e1]; exact h⟩))))))⟩))))))
theorem tm_JS_charAt {K : Int32 → MzM → Prop} {k : Nat} (hk : k < 44) {x : Int32} (j : Nat) (hj : x.toInt = (j : Int)) (hn : j < (mzStrB.getD k []).length) (hL : mzLnk g M) (h : K ((mzStrB.getD k []).getD j 0) M) : MzC G B (d + 3) mm_JS_charAt [.ref (G.2 (100 + k)), .int x] M (0, 0) (mzK1 g B K) :=
  MzC.of (by decide) (Nat.le_of_ble_eq_true rfl) (show MzS G B (d + 3) mm_JS_charAt M (0, 0) (mzK1 g B K) 0 [(0, .ref (G.2 (100 + k))), (1, .int x)] [] from
    mz_aload_n d_JS_charAt_0 rfl (mz_callR (As := []) (st := []) 0 0 d_JS_charAt_1 cs_JS_isLatin1 wl_JS_492 wi_JS_isLatin1 wse_JS_isLatin1 (fun A s hr => (mz_u hr (mz_strIn hk)).1) (Nat.le_of_ble_eq_true rfl) (Nat.le_refl _) (Nat.le_refl _) (MzC.mono (tm_JS_isLatin1 (d := d + 2) (K := fun v M' => v = 1 ∧ M' = M) hk hL ⟨rfl, rfl⟩) (fun r9 B9 M1 hq => by
      obtain ⟨rfl, hL1, v, rfl, rfl, rfl⟩ := hq
      exact ⟨_, rfl, mz_if_eq 16 d_JS_charAt_4 rfl (fun hc => absurd hc (by decide)) (fun _ => mz_aload_n d_JS_charAt_7 rfl (mz_getF d_JS_charAt_8 wf_JS_9 (fun A s hr => (mz_u hr (mz_strIn hk)).2.2.1) (mz_iload_n d_JS_charAt_11 rfl (mz_callS (As := [.ref (G.2 (200 + k)), .int x]) (st := []) 0 0 d_JS_charAt_12 cs_JL_charAt wl_JS_495 ws_JL_charAt (Nat.le_of_ble_eq_true rfl) (Nat.le_refl _) (Nat.le_refl _) (MzC.mono (tm_JL_charAt (K := fun v M' => v = (mzStrB.getD k []).getD j 0 ∧ M' = M1) hk j hj hn hL1 ⟨rfl, rfl⟩) (fun r9 B9 M2 hq => by
        obtain ⟨rfl, hL2, v2, rfl, rfl, rfl⟩ := hq
        exact ⟨_, rfl, mz_iret .char d_JS_charAt_15 rfl (mz_strCh k hk j hn).2 ⟨rfl, hL2, _, rfl, h⟩⟩))))))⟩))))
theorem tm_JE_ordinal {K : Int32 → MzM → Prop} {k : Nat} (hk : k < 21) (hL : mzLnk g M) (h : K (Int32.ofNat k) M) : MzC G B d mm_JE_ordinal [.ref (G.2 k)] M (0, 0) (mzK1 g B K) :=
  MzC.of (by decide) (Nat.le_of_ble_eq_true rfl) (show MzS G B d mm_JE_ordinal M (0, 0) (mzK1 g B K) 0 [(0, .ref (G.2 k))] [] from
    mz_aload_n d_JE_ordinal_0 rfl (mz_getF d_JE_ordinal_1 wf_JE_7 (fun A s hr => (mz_u hr (mz_cmdIn hk)).2.1) (mz_iret .int d_JE_ordinal_4 rfl rfl ⟨rfl, hL, _, rfl, h⟩)))
def mzOrd : MethodName := ⟨"ParcelLine$Command", "ordinal", "()I"⟩
/-- command.ordinal(): an inherited method of a constant -/
theorem mz_ordinal {idx k : Nat} (hk : k < 21) (hd : decode mm.2.1 pc = .ok (.invokevirtual idx, 3)) (hw : Cond.methodLink mm.1.cls idx mzOrd ∈ mzAll) (hst : (st.map fun v => v.category).sum ≤ 8) (hL : mzLnk g M) (h : MzS G B (d + 1) mm M bu Q (pc + 3) lv (.int (Int32.ofNat k) :: st)) : MzS G B (d + 1) mm M bu Q pc lv (.ref (G.2 k) :: st) := by
  intro p l e mc ms s m args below meth c A H locs cells slots ls hX hl hI c1 c2
  obtain ⟨cell, k1, k2, k3, -⟩ := (mz_u hI.2.2.2.2.2 (mz_cmdIn hk)).1.kept hI.2.2.2.1.2.1
  have hG : GoodIn (mzWs mm) (va_wsU mm.1.cls idx "ParcelLine$Command" "java/lang/Enum" mzOrd mm_JE_ordinal.1 (mzWs mm_JE_ordinal)) := by
    intro w hw2
    rcases List.mem_append.mp hw2 with hw2 | hw2
    · have hm : w ∈ mzAll := by
        rcases List.mem_cons.mp hw2 with rfl | hw2
        · exact hw
        rcases List.mem_cons.mp hw2 with rfl | hw2
        · exact wsm_ordinal
        rcases List.mem_cons.mp hw2 with rfl | hw2
        · exact wse_ordinal
        rcases List.mem_cons.mp hw2 with rfl | hw2
        · exact wi_JE_ordinal
        rcases List.mem_cons.mp hw2 with rfl | hw2
        · exact wn_JE
        · cases hw2
      exact ⟨List.mem_cons_of_mem _ hm, mzAll_good _ hm⟩
    · exact mz_good wco_JE_ordinal w hw2
  have hc : MzC G B d mm_JE_ordinal [.ref (G.2 k)] M (0, 0) (fun r B' M' => ∃ v, r = .inl v ∧ MzS G B' (d + 1) mm M' (bu.1 - 0, bu.2 - 0) Q (pc + 3) lv (v.toList ++ st)) :=
    MzC.mono (tm_JE_ordinal (K := fun v M' => v = Int32.ofNat k ∧ M' = M) hk hL ⟨rfl, rfl⟩) (fun r9 B9 M1 hq => by
      obtain ⟨rfl, hL1, v, rfl, rfl, rfl⟩ := hq
      exact ⟨_, rfl, h⟩)
  refine mz_back hX hl hI c1 c2 (Nat.zero_le _) (Nat.zero_le _) (va_runU (x := mzOrd) (y := mm_JE_ordinal.1) (bytes := mm_JE_ordinal.2.1) (maxL := mm_JE_ordinal.2.2.1) (ret := mm_JE_ordinal.2.2.2) (ws := mzWs mm_JE_ordinal) (rm := mzRm d 0 0) (C := "ParcelLine$Command") (owner := "java/lang/Enum") (As := []) (rest := st) (nL := mm.2.2.1) (Ts := mzWs mm) (own := mm.1.cls) (n := 0) ⟨hX.1, hX.2.1, hX.2.2.1, hX.2.2.2.2.2.1, hX.2.2.2.2.1⟩ (hc l H.size) (va_cwU 0 hX.2.2.2.2.1 hG rfl rfl rfl rfl (by decide +kernel) ⟨Nat.le_refl _, show 8 + (1 + 11) + 46 * d ≤ 46 * (d + 1) by omega⟩) ⟨mz_pre_blind, ⟨cell, k1, k2, k3⟩, fun U hU hW => mz_preOf hI hU hW⟩ rfl rfl hl.1 rfl (lv_room hst) hd ⟨show cells + 0 ≤ mc by omega, show slots + 0 ≤ ms by omega⟩)
end MzRoRules
theorem mz_cmdW {c : Nat} (h : c < 21) : mzCmdW.getD c 0 < 44 := (by decide +kernel : ∀ c, c < 21 → mzCmdW.getD c 0 < 44) c h
/-- a method's end with a command or null -/
def mzKc (g : Bool) (G : MzG) (B : MzB) (K : Option Nat → MzM → Prop) : MzR → MzB → MzM → Prop := fun r B' M' => B = B' ∧ mzLnk g M' ∧ ∃ o : Option Nat, (∀ c, o = some c → c < 21) ∧ r = .inl (some (va_rf (o.map G.2))) ∧ K o M'

