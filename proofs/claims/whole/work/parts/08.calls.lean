/-! RULES 3: a method's entry; calls -/
theorem va_AOA.moved {ty : FieldType} {u U : State} (hvm : u.vm.Alike U.vm) (h : va_AOA ty u) : va_AOA ty U := by
  first | exact Jvm.arrayOver_alikeB hvm h | exact Jvm.Stand.arrayOver_alikeB hvm h | exact arrayOver_alikeB hvm h
theorem a_VF.moved {K : aK} {s U : State} {H H1 : Heap} (hW : s.WarmedH U.vm) (h : a_VF K s H) (hz : H.size ≤ H1.size) (hq : ∀ a : Nat, a < H.size → ¬ K.2.2.1 ≤ a → H1[a]? = H[a]?) : a_VF K U H1 := by
  obtain ⟨h1, h2, h3, h4, h5, h6, h7, h8, h9, h10, h11, h12, h13, h14, h15, h16, h17⟩ := h
  have hA := hW.alike
  refine ⟨va_K.moved hA h1, Nat.le_trans h2 hz, h3, fun k q hk => (h4 k q hk).warm hW, (h5.moved hA).kept hq, (h6.moved hA).kept hq, fun w hw => ?_, h8.moved hA, h9.moved hA, h10.moved hA, h11.moved hA, (h12.moved hA).kept hq, (h13.moved hA).kept hq, (h14.moved hA).kept hq, (h15.moved hA).kept hq, h16.imp (fun z => (z.moved hA).kept hq) (fun z => (z.moved hA).kept hq), fun E hE F hF hn => (h17 E hE F hF hn).moved hA⟩
  have hn := h7 w hw
  have hi := (List.mem_filter.mp hw).2
  cases w <;> simp only [a_isN] at hi <;> first | exact va_Nw.warmD hW hn | exact va_Nw.warmC hW hn | exact va_Nw.warmM hW hn | exact absurd hi (by decide)
theorem a_args_in (vs : List Value) : ∀ (n j : Nat) (v : Value), (∀ w ∈ vs, w.category = 1) → vs[j]? = some v → (n + j, v) ∈ lv_args n vs := by
  induction vs with
  | nil => intro n j v _ h; simp at h
  | cons w vs ih =>
    intro n j v hc h
    have h1 : w.category = 1 := hc w List.mem_cons_self
    simp only [lv_args, h1]
    cases j with
    | zero =>
      obtain rfl : w = v := by simpa using h
      exact List.mem_cons_self
    | succ j =>
      have := ih (n + 1) j v (fun w hw => hc w (List.mem_cons_of_mem _ hw)) (by simpa using h)
      rw [show n + 1 + j = n + (j + 1) by omega] at this
      exact List.mem_cons_of_mem _ (by simpa using this)
theorem a_sl_len (vs : List Value) (hc : ∀ w ∈ vs, w.category = 1) : (lg_sl vs).length = vs.length := by
  induction vs with
  | nil => rfl
  | cons w vs ih =>
    have h1 : w.category = 1 := hc w List.mem_cons_self
    have := ih (fun w hw => hc w (List.mem_cons_of_mem _ hw))
    simp [lg_sl, h1] at this ⊢
    omega
/-- locals at the entry -/
def a_L0 (M : aMI) (av : List Value) : List Value := av ++ List.replicate (M.2.2.1 - av.length) (.double 0)
theorem a_entry {K : aK} {M : aMI} {ρ : Nat → Nat} {av : List Value} (hl : av.length ≤ M.2.2.1) (hc : ∀ v ∈ av, v.category = 1) : lv_has ((lg_sl (av.map (a_tr K ρ)) ++ List.replicate (M.2.2.1 - (lg_sl (av.map (a_tr K ρ))).length) Slot.unset).toArray) M.2.2.1 (a_pl K ρ 0 (a_L0 M av)) := by
  have hc' : ∀ w ∈ av.map (a_tr K ρ), w.category = 1 := fun w hw => by
    obtain ⟨v, hv, rfl⟩ := List.mem_map.mp hw
    rw [a_tr_cat]; exact hc v hv
  have h := lv_entry (av.map (a_tr K ρ)) (n := M.2.2.1) (by rw [a_sl_len _ hc', List.length_map]; exact hl)
  refine ⟨h.1, h.2.1, fun q hq => h.2.2 q ?_⟩
  obtain ⟨j, v, h1, h2, rfl⟩ := a_pl_mem _ _ _ hq
  have h3 : av[j]? = some v := by
    unfold a_L0 at h1
    by_cases hj : j < av.length
    · rw [List.getElem?_append_left hj] at h1; exact h1
    · rw [List.getElem?_append_right (by omega), List.getElem?_replicate] at h1
      split at h1
      · exact absurd (Option.some.inj h1).symm (h2 0)
      · cases h1
  have := a_args_in (av.map (a_tr K ρ)) 0 j (a_tr K ρ v) hc' (by rw [List.getElem?_map, h3]; rfl)
  exact this
/-- a method's own words: it is plain, its class is its own -/
def a_ok (M : aMI) : Prop := plainName M.2.2.2.2.1.cls = true ∧ M.2.2.2.2.1.cls = M.1 ∧ M.2.2.2.2.1.name ≠ "law"
theorem run_of {K : aK} {M : aMI} {d bc bs : Nat} {av : List Value} {h : aH} {Q : aQ} (ok : a_ok M) (hh : M.2.2.2.2.2 = []) (hl : av.length ≤ M.2.2.1) (hc : ∀ v ∈ av, v.category = 1) (g : G K M d bc bs 0 (a_L0 M av) [] h Q) : Run K M d bc bs av h Q := by
  intro ρ0
  refine vx_ofW (cc := M.2.1) (maxL := M.2.2.1) (ret := M.2.2.2.1) (ws' := a_w0) ok.1 (by unfold a_cw; rw [hh]) ?_
  intro p e s m args below meth c s₁ B hml ht hv
  obtain ⟨rfl, hVF, hR, hsl, hnl⟩ := hv
  have hpre := atoms_spec (ws := a_cw M :: a_w0) B.pre
  have htab : c.exceptionTable.toList = tableOf M.2.2.2.2.2 := by
    rw [hh]
    cases hq : c.exceptionTable.toList with
    | nil => rfl
    | cons x l => exact (ht x (by rw [hq]; exact List.mem_cons_self)).elim
  have C : a_cx K M p s m (av.map (a_tr K ρ0)).toArray meth c := ⟨B.exec, B.bytes, hml, by rw [← ok.2.1]; exact findClass_of_methodNamed B.named, B.returns, fun w hw => hpre w (List.mem_cons_of_mem _ hw), B.notSynchronized, (name_of_methodNamed B.named B.method).1, htab, hVF, fun q => absurd q hnl⟩
  have hL := a_entry (K := K) (ρ := ρ0) hl hc
  rw [lg_entry_eq]
  exact g p e s m _ below meth c ρ0 h.1.1 bc bs C ρ0 s.heap [] 0 0 _ hR (fun _ _ => rfl) (Nat.le_refl _) (fun v hv => by
    rcases List.mem_append.mp hv with hv | hv
    · exact hsl v hv
    · rw [(List.mem_replicate.mp hv).2]; trivial) (fun v hv => nomatch hv) hL va_S.rf (by omega) (by omega)
theorem run_ofH {K : aK} {M : aMI} {d bc bs : Nat} {av : List Value} {h : aH} {Q : aQ} (ok : a_ok M) (hh : M.2.2.2.2.2 ≠ []) (hl : av.length ≤ M.2.2.1) (hc : ∀ v ∈ av, v.category = 1) (g : G K M d bc bs 0 (a_L0 M av) [] h Q) : Run K M d bc bs av h Q := by
  intro ρ0
  have hcw : a_cw M = .codeWith M.2.2.2.2.1 M.2.1 M.2.2.1 M.2.2.2.1 M.2.2.2.2.2 := by
    unfold a_cw
    split
    · rename_i q; exact absurd q hh
    · rfl
  refine vx_ofWH (cc := M.2.1) (maxL := M.2.2.1) (ret := M.2.2.2.1) (hh := M.2.2.2.2.2) (ws' := a_w0) ok.1 (by rw [hcw]) ?_
  intro p e s m args below meth c s₁ B hml hv
  obtain ⟨rfl, hVF, hR, hsl, hnl⟩ := hv
  have hpre := atoms_spec (ws := a_cw M :: a_w0) B.pre
  have htab : c.exceptionTable.toList = tableOf M.2.2.2.2.2 := vx_table (x := M.2.2.2.2.1) B (by rw [← hcw]; exact hpre _ List.mem_cons_self)
  have C : a_cx K M p s m (av.map (a_tr K ρ0)).toArray meth c := ⟨B.exec, B.bytes, hml, by rw [← ok.2.1]; exact findClass_of_methodNamed B.named, B.returns, fun w hw => hpre w (List.mem_cons_of_mem _ hw), B.notSynchronized, (name_of_methodNamed B.named B.method).1, htab, hVF, fun q => absurd q hnl⟩
  have hL := a_entry (K := K) (ρ := ρ0) hl hc
  rw [lg_entry_eq]
  exact g p e s m _ below meth c ρ0 h.1.1 bc bs C ρ0 s.heap [] 0 0 _ hR (fun _ _ => rfl) (Nat.le_refl _) (fun v hv => by
    rcases List.mem_append.mp hv with hv | hv
    · exact hsl v hv
    · rw [(List.mem_replicate.mp hv).2]; trivial) (fun v hv => nomatch hv) hL va_S.rf (by omega) (by omega)
