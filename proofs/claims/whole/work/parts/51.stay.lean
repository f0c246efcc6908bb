/-! the constants stay -/
def isNest : Cond → Bool
  | .fieldLinkNest .. => true
  | .methodLinkNest .. => true
  | _ => false
theorem mzNest_is : mzNest.all isNest = true := by decide +kernel
theorem st_alike {f : MzF} (h1 : ∀ ra A (u U : State) H, u.vm.Alike U.vm → f ra A u H → f ra A U H) (h3 : ∀ ra A (U : State) (H H1 : Heap), (∀ a : Nat, a < H.size → ¬ A a → H1[a]? = H[a]?) → f ra A U H → f ra A U H1) (h4 : ∀ ra (A B : Nat → Prop) (U : State) H, (∀ q, B q → A q) → f ra A U H → f ra B U H) : mzStays f :=
  ⟨fun ra A u U H hW h => h1 ra A u U H hW.alike h, fun ra A u U H hv h => h1 ra A u U H (by rw [hv]; exact Vm.Alike.refl _) h, h3, h4⟩
theorem st_nest {w : Cond} (hw : w ∈ mzNest) : mzStays (mzNw w) := by
  have h := List.all_eq_true.mp mzNest_is w hw
  cases w <;> first
    | (simp [isNest] at h; done)
    | exact ⟨fun ra A u U H hW h => va_Nw.warmF hW h, fun ra A u U H hv h => va_Nw.same rfl hv h, fun _ _ _ _ _ _ h => h, fun _ _ _ _ _ _ h => h⟩
    | exact ⟨fun ra A u U H hW h => va_Nw.warmM hW h, fun ra A u U H hv h => va_Nw.same rfl hv h, fun _ _ _ _ _ _ h => h, fun _ _ _ _ _ _ h => h⟩
theorem st_cast (C T : String) : mzStays (mzNw (.castable C T)) := ⟨fun ra A u U H hW h => va_Nw.warmC hW h, fun ra A u U H hv h => va_Nw.same rfl hv h, fun _ _ _ _ _ _ h => h, fun _ _ _ _ _ _ h => h⟩
theorem st_ao (C : String) : mzStays (mzAo C) := st_alike (fun ra A u U H hv h => va_AO.moved hv h) (fun _ _ _ _ _ _ h => h) (fun _ _ _ _ _ _ h => h)
theorem st_nc (C T : String) : mzStays (mzNc C T) := st_alike (fun ra A u U H hv h => va_Nc.moved hv h) (fun _ _ _ _ _ _ h => h) (fun _ _ _ _ _ _ h => h)
theorem st_cmd (c : Nat) : mzStays (mzCmd c) := st_alike (fun ra A u U H hv h => ⟨h.1.moved hv, h.2.1.moved hv, h.2.2.1.moved hv, h.2.2.2.1.moved hv, h.2.2.2.2.1.moved hv, h.2.2.2.2.2.1.moved hv, h.2.2.2.2.2.2.moved hv⟩) (fun ra A U H H1 hq h => ⟨h.1.kept hq, h.2.1.kept hq, h.2.2.1.kept hq, h.2.2.2.1.kept hq, h.2.2.2.2.1.kept hq, h.2.2.2.2.2.1.kept hq, h.2.2.2.2.2.2.kept hq⟩) (fun ra A B U H hq h => ⟨h.1.narrow hq, h.2.1.narrow hq, h.2.2.1.narrow hq, h.2.2.2.1.narrow hq, h.2.2.2.2.1.narrow hq, h.2.2.2.2.2.1.narrow hq, h.2.2.2.2.2.2.narrow hq⟩)
theorem st_str (k : Nat) : mzStays (mzStr k) := ⟨fun ra A u U H hW h => ⟨h.1.moved hW.alike, h.2.1.moved hW.alike, h.2.2.1.moved hW.alike, h.2.2.2.1.moved hW.alike, h.2.2.2.2.warm hW⟩, fun ra A u U H hv h => by
    have ha : u.vm.Alike U.vm := by rw [hv]; exact Vm.Alike.refl _
    exact ⟨h.1.moved ha, h.2.1.moved ha, h.2.2.1.moved ha, h.2.2.2.1.moved ha, h.2.2.2.2.same hv.symm⟩, fun ra A U H H1 hq h => ⟨h.1.kept hq, h.2.1.kept hq, h.2.2.1.kept hq, h.2.2.2.1.kept hq, h.2.2.2.2⟩, fun ra A B U H hq h => ⟨h.1.narrow hq, h.2.1.narrow hq, h.2.2.1.narrow hq, h.2.2.2.1.narrow hq, h.2.2.2.2⟩⟩
theorem st_allz : mzStays mzAllZ := st_alike (fun ra A u U H hv h => ⟨h.1.moved hv, h.2.moved hv⟩) (fun ra A U H H1 hq h => ⟨h.1.kept hq, h.2.kept hq⟩) (fun ra A B U H hq h => ⟨h.1.narrow hq, h.2.narrow hq⟩)
theorem st_sw : mzStays mzSwZ := st_alike (fun ra A u U H hv h => ⟨h.1.moved hv, h.2.moved hv⟩) (fun ra A U H H1 hq h => ⟨h.1.kept hq, h.2.kept hq⟩) (fun ra A B U H hq h => ⟨h.1.narrow hq, h.2.narrow hq⟩)
theorem st_cs : mzStays mzCsZ := st_alike (fun ra A u U H hv h => va_Z.moved hv h) (fun ra A U H H1 hq h => va_Z.kept h hq) (fun ra A B U H hq h => va_Z.narrow h hq)
theorem st_ne : mzStays mzNeZ := st_alike (fun ra A u U H hv h => h) (fun ra A U H H1 hq h => h) (fun ra A B U H hq h => h)
theorem st_rfz (C n d : String) : mzStays (mzRefZ C n d) := st_alike (fun ra A u U H hv h => by obtain ⟨v, h1, h2⟩ := h; exact ⟨v, h1, h2.moved hv⟩) (fun ra A U H H1 hq h => by obtain ⟨v, h1, h2⟩ := h; exact ⟨v, h1, h2.kept hq⟩) (fun ra A B U H hq h => by obtain ⟨v, h1, h2⟩ := h; exact ⟨v, h1, h2.narrow hq⟩)
theorem st_lst (C n d : String) : mzStays (mzLs C n d) := by
  refine st_alike ?_ ?_ ?_
  · intro ra A u U H hv h
    obtain ⟨cf, kf, fi, f, a, cell, h1, h2, h3, h4, h5, h6, h7, h8, h9, h10⟩ := h
    obtain ⟨k', hi', he⟩ := State.fieldFound?_setVm hv h2
    exact ⟨cf, k', fi, f, a, cell, by rw [hv.findClass]; exact h1, hi', h3, by rw [he]; exact h4, h5, h6, h7, h8, by rw [he]; exact h9, h10⟩
  · intro ra A U H H1 hq h
    obtain ⟨cf, kf, fi, f, a, cell, h1, h2, h3, h4, h5, h6, h7, h8, h9, h10⟩ := h
    exact ⟨cf, kf, fi, f, a, cell, h1, h2, h3, h4, by rw [hq a (Array.getElem?_eq_some_iff.mp h5).1 h10]; exact h5, h6, h7, h8, h9, h10⟩
  · intro ra A B U H hq h
    obtain ⟨cf, kf, fi, f, a, cell, h1, h2, h3, h4, h5, h6, h7, h8, h9, h10⟩ := h
    exact ⟨cf, kf, fi, f, a, cell, h1, h2, h3, h4, h5, h6, h7, h8, h9, fun z => h10 (hq a z)⟩
theorem mz_stays : ∀ f ∈ mzRo, mzStays f := by
  intro f hf
  unfold mzRo at hf
  rcases List.mem_append.mp hf with h | h
  · obtain ⟨w, hw, rfl⟩ := List.mem_map.mp h
    exact st_nest hw
  · rcases List.mem_append.mp h with h | h
    · simp only [List.mem_cons, List.not_mem_nil, or_false] at h
      rcases h with rfl | rfl | rfl | rfl | rfl | rfl | rfl | rfl | rfl | rfl | rfl | rfl | rfl | rfl | rfl | rfl | rfl
      · exact st_ao _
      · exact st_ao _
      · exact st_ao _
      · exact st_allz
      · exact st_sw
      · exact st_cs
      · exact st_ne
      · exact st_rfz _ _ _
      · exact st_rfz _ _ _
      · exact st_rfz _ _ _
      · exact st_lst _ _ _
      · exact st_lst _ _ _
      · exact st_cast _ _
      · exact st_cast _ _
      · exact st_cast _ _
      · exact st_nc _ _
      · exact st_nc _ _
    · rcases List.mem_append.mp h with h | h
      · obtain ⟨c, -, rfl⟩ := List.mem_map.mp h
        exact st_cmd c
      · obtain ⟨k, -, rfl⟩ := List.mem_map.mp h
        exact st_str k
