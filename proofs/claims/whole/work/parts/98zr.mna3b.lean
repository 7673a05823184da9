/-! ARRAYS OF ARRAYS OF ARRAYS: the law of the instruction -/
section
variable {p : Program} {l : Launch} {e : Env} {R : Room} {s : State} {m : MethodId} {args : Array Value} {below : List Frame} {meth : Method} {c : Code} {T : State} {locs : List Loc} {cells slots : Nat}
theorem filled3 (X : Stand p l e R s m args below meth c T locs cells slots) (cA comp cc : ClassId) (N A B : Nat) (dv : Value) : ∀ i, Stand p l e R s m args below meth c (fill3 T cA comp cc N A B dv i) locs (cells + 1 + i * (1 + A)) (slots + N + i * (A + A * B))
  | 0 => by
    have h := X.pushed (out3 cA N T.heap.size (1 + A) 0)
    rw [(out3_facts cA N T.heap.size (1 + A) 0).2.2] at h
    simpa [fill3] using h
  | i + 1 => by
    have Xi := filled3 X cA comp cc N A B dv i
    obtain ⟨f1, f2, f3, f4⟩ := fill3_facts T cA comp cc N A B dv i
    have hg := X.heapGrown
    have hlt0 : T.heap.size < (fill3 T cA comp cc N A B dv i).heap.size := by rw [f1]; omega
    have Xj := (Xi.filled comp cc A B dv A).dropFresh (fun x hx => by
      obtain ⟨j, -, rfl⟩ := List.mem_map.mp hx
      show s.heap.size ≤ (fill3 T cA comp cc N A B dv i).heap.size
      omega)
    have hcell : (Jvm.Free.Multi.fill (fill3 T cA comp cc N A B dv i) comp cc A B dv A).heap[T.heap.size]? = some (out3 cA N T.heap.size (1 + A) i) := by rw [Jvm.Free.Multi.fill_old _ comp cc A B dv hlt0 A]; exact f2
    have h := (Xj.stored hcell i (.ref (T.heap.size + 1 + i * (1 + A)))).dropFresh (fun x hx => by
      rw [List.mem_singleton.mp hx]
      exact hg)
    rw [show cells + 1 + (i + 1) * (1 + A) = cells + 1 + i * (1 + A) + 1 + A by rw [Nat.succ_mul]; omega, show slots + N + (i + 1) * (A + A * B) = slots + N + i * (A + A * B) + A + A * B by rw [Nat.succ_mul]; omega]
    exact h
theorem mna3F (X : Stand p l e R s m args below meth c T locs cells slots) (hexec : p.tables.exec = Jvm.exec) {own : String} {index : Nat} {ty : FieldType} (hown : s.vm.findClass own = some m.cls) (hclink : (Cond.classLink own index ("[" ++ (FieldType.array (.array ty)).toString)).before args s = true)
    (hov3 : (Cond.arrayOver (.array (.array ty))).before args s = true) (hov2 : (Cond.arrayOver (.array ty)).before args s = true) (harr : (Cond.arrayClass ty).before args s = true) {g : JFrame} (hg : g.method = m) (hdg : decode c.code g.pc = .ok (.multianewarray index 3, 4)) {n a b : Int32} {rest : List Value} (hstack : g.stack = .int b :: .int a :: .int n :: rest)
    (hn : ¬ n < 0) (ha : ¬ a < 0) (hb : ¬ b < 0) (hb0 : n.toNatClampNeg * 4 ≤ 536870912) (hb1 : a.toNatClampNeg * 4 ≤ 536870912) (hb2 : b.toNatClampNeg * componentBytes ty ≤ 536870912) (hb3 : b.toNatClampNeg ≤ 536870912) (hdf : fits ty (defaultValue ty) = true) (hdd : (defaultValue ty).isDefault = true)
    (hcells : cells + (1 + n.toNatClampNeg * (1 + a.toNatClampNeg)) ≤ R.cells) (hslots : slots + (n.toNatClampNeg + n.toNatClampNeg * (a.toNatClampNeg + a.toNatClampNeg * b.toNatClampNeg)) ≤ R.slots) :
    ∃ (vm₁ : Vm) (cA comp cc : ClassId), s.WarmedH vm₁ ∧ s.vm.findClass ("[" ++ (FieldType.array (.array ty)).toString) = some cA ∧ s.vm.findClass (FieldType.array (.array ty)).toString = some comp ∧ s.vm.findClass (FieldType.array ty).toString = some cc ∧
      Stand p l e R s m args below meth c (fill3 (T.setVm vm₁) cA comp cc n.toNatClampNeg a.toNatClampNeg b.toNatClampNeg (defaultValue ty) n.toNatClampNeg) locs (cells + 1 + n.toNatClampNeg * (1 + a.toNatClampNeg)) (slots + n.toNatClampNeg + n.toNatClampNeg * (a.toNatClampNeg + a.toNatClampNeg * b.toNatClampNeg)) ∧
      ∀ target, Steps p.tables e below ((fill3 (T.setVm vm₁) cA comp cc n.toNatClampNeg a.toNatClampNeg b.toNatClampNeg (defaultValue ty) n.toNatClampNeg).setTop { g with pc := g.pc + 4, stack := .ref T.heap.size :: rest }) target → Steps p.tables e below (T.setTop g) target := by
  subst hg
  have hpl : e.platform.magicAccessors = ({} : Platform).magicAccessors := by rw [X.admits.platform]
  obtain ⟨comp, cA, kA, hcomp, hkA, hkindA, hnameA⟩ := Cond.arrayOver_specA hov3
  obtain ⟨cc, comp', kB, hcc, hkB, hkindB, hnameB⟩ := Cond.arrayOver_specA hov2
  obtain ⟨cc', kC, c4, hcc', hkC, hkindC⟩ := Cond.arrayClass_spec harr
  have ec : comp' = comp := Option.some.inj (hnameB.symm.trans hcomp)
  subst ec
  have ed : cc' = cc := Option.some.inj (hcc'.symm.trans hcc)
  subst ed
  obtain ⟨c0, hfc0, hcl⟩ := Cond.classLink_spec hown hclink e.platform hpl
  cases hnameA.symm.trans hfc0
  obtain ⟨hg₁, hwarm₁, hready₁⟩ := State.classEntry (e := e) X.warmed hcl
  generalize T.vm.noted g.method.cls index (.cls cA) = vm₁ at hg₁ hwarm₁ hready₁
  have hal : s.vm.Alike vm₁ := hwarm₁.alike
  obtain ⟨kA₁, hkA₁, heA⟩ := hal.2.2 _ _ hkA
  obtain ⟨kB₁, hkB₁, heB⟩ := hal.2.2 _ _ hkB
  obtain ⟨kC₁, hkC₁, heC⟩ := hal.2.2 _ _ hkC
  have hkindA₁ : kA₁.kind = .array comp' (.array (.array ty)) := by rw [heA]; exact hkindA
  have hkindB₁ : kB₁.kind = .array cc' (.array ty) := by rw [heB]; exact hkindB
  have hkindC₁ : kC₁.kind = .array c4 ty := by rw [heC]; exact hkindC
  have X₁ := X.noted hwarm₁
  obtain ⟨hr1, hr2⟩ := X.roomAbove hcells hslots
  refine ⟨vm₁, cA, comp', cc', hwarm₁, hnameA, hcomp, hcc, filled3 X₁ cA comp' cc' _ _ _ _ _, fun target hrest => ?_⟩
  have hl0 : ¬ n.toNatClampNeg > e.platform.arrayLengthLimit := by rw [Launch.admits_arrayLengthLimit X.admits]; omega
  have hh0 : ¬ n.toNatClampNeg * componentBytes (.array (.array ty)) > e.platform.maxHeapBytes := by
    rw [Launch.admits_maxHeapBytes X.admits]; show ¬ n.toNatClampNeg * 4 > 536870912; omega
  have hl1 : ¬ a.toNatClampNeg > e.platform.arrayLengthLimit := by rw [Launch.admits_arrayLengthLimit X.admits]; omega
  have hh1 : ¬ a.toNatClampNeg * componentBytes (.array ty) > e.platform.maxHeapBytes := by
    rw [Launch.admits_maxHeapBytes X.admits]; show ¬ a.toNatClampNeg * 4 > 536870912; omega
  have hl2 : ¬ b.toNatClampNeg > e.platform.arrayLengthLimit := by rw [Launch.admits_arrayLengthLimit X.admits]; omega
  have hh2 : ¬ b.toNatClampNeg * componentBytes ty > e.platform.maxHeapBytes := by rw [Launch.admits_maxHeapBytes X.admits]; omega
  jvm_step X.here [hexec, hdg]
  simp only [Op.multianewarray.sem, wp_bind', W.resolveClassAt_links (State.method?_setTop g X.here.top) hg₁]
  rw [W.popN, if_neg (by decide)]
  refine ⟨g, State.topJava?_setTop' (s := T.setVm vm₁) g X.here.top, [.int n, .int a, .int b], rest, rfl, hstack, ?_⟩
  simp only [List.mapM_cons, List.mapM_nil, wp_bind', wp_pure']
  refine wp_make3 (k := kA₁) (kc := kB₁) (kd := kC₁) (comp := comp') (cc := cc') (c4 := c4) (t0 := .array (.array ty)) (t1 := .array ty) (type := ty) hkA₁ hkindA₁ rfl hkB₁ hkindB₁ rfl hkC₁ hkindC₁ hn ha hb hl0 hh0 hl1 hh1 hl2 hh2 hdf hdd (by show T.heap.size + 1 + _ ≤ _; omega) (by show T.slotsUsed + _ + _ ≤ _; omega) (fun d' acts' => ?_)
  have XF := filled3 X₁ cA comp' cc' n.toNatClampNeg a.toNatClampNeg b.toNatClampNeg (defaultValue ty) n.toNatClampNeg
  have eS : ((T.setTop g).setVm vm₁).setTop { g with stack := rest } = (T.setVm vm₁).setTop { g with stack := rest } := by
    show ((T.setVm vm₁).setTop g).setTop _ = _
    rw [State.setTop_setTop]
  rw [eS, fill3_setTop]
  simp only [wp_bind', W.mark, W.pushRef, State.topJava?_setTop' _ XF.here.top, Option.some.injEq, exists_eq_left', State.setTop_setTop, State.heap_setTop]
  intro acts
  simp [jvm, XF.here.top]
  exact hrest
end
