/-! ARRAYS OF ARRAYS OF ARRAYS are made -/
/-- the outer cell after i of its N rows, each of w cells -/
def out3 (c : ClassId) (N h0 w : Nat) : Nat → Cell
  | 0 => { cls := c, slots := Array.replicate N .null, vm := .none }
  | i + 1 => (out3 c N h0 w i).setSlot i (.ref (h0 + 1 + i * w))
def fill3 (s : State) (c comp cc : ClassId) (N A B : Nat) (dv : Value) : Nat → State
  | 0 => s.pushCell (out3 c N s.heap.size (1 + A) 0)
  | i + 1 => (Jvm.Free.Multi.fill (fill3 s c comp cc N A B dv i) comp cc A B dv A).setCell s.heap.size (out3 c N s.heap.size (1 + A) (i + 1))
theorem out3_facts (c : ClassId) (N h0 w : Nat) : ∀ i, (out3 c N h0 w i).cls = c ∧ (out3 c N h0 w i).vm = .none ∧ (out3 c N h0 w i).slots.size = N
  | 0 => ⟨rfl, rfl, by simp [out3]⟩
  | i + 1 => by
    obtain ⟨a, b, d⟩ := out3_facts c N h0 w i
    exact ⟨by simp [out3, Cell.setSlot, a], by simp [out3, Cell.setSlot, b], by simp [out3, Cell.setSlot, d]⟩
theorem out3_arr (c : ClassId) (N h0 w : Nat) : ∀ i : Nat, out3 c N h0 w i = arrV c N (fun j => va_rf (if j < i then some (h0 + 1 + j * w) else none))
  | 0 => by
    show ({ cls := c, slots := Array.replicate N .null, vm := .none } : Cell) = _
    rw [arrV_new]
    refine congrArg (arrV c N) (funext fun j => ?_)
    simp [va_rf]
  | i + 1 => by
    show (out3 c N h0 w i).setSlot i (.ref (h0 + 1 + i * w)) = _
    rw [out3_arr c N h0 w i, arrV_store]
    refine congrArg (arrV c N) (funext fun j => ?_)
    by_cases e : j = i
    · subst e
      simp [updV, va_rf]
    · by_cases h : j < i
      · simp [updV, e, h, Nat.lt_succ_of_lt h]
      · simp [updV, e, h, show ¬ j < i + 1 by omega]
theorem fill3_facts (s : State) (c comp cc : ClassId) (N A B : Nat) (dv : Value) : ∀ i, (fill3 s c comp cc N A B dv i).heap.size = s.heap.size + 1 + i * (1 + A) ∧ (fill3 s c comp cc N A B dv i).heap[s.heap.size]? = some (out3 c N s.heap.size (1 + A) i) ∧ (fill3 s c comp cc N A B dv i).vm = s.vm ∧ (fill3 s c comp cc N A B dv i).slotsUsed = s.slotsUsed + N + i * (A + A * B)
  | 0 => ⟨by simp [fill3], by simp [fill3], rfl, by simp [fill3, out3]⟩
  | i + 1 => by
    obtain ⟨a, b, d, u⟩ := fill3_facts s c comp cc N A B dv i
    obtain ⟨f1, f2, f3, f4⟩ := Jvm.Free.Multi.fill_facts (fill3 s c comp cc N A B dv i) comp cc A B dv A
    have hlt : s.heap.size < (fill3 s c comp cc N A B dv i).heap.size := by omega
    have hb' : (Jvm.Free.Multi.fill (fill3 s c comp cc N A B dv i) comp cc A B dv A).heap[s.heap.size]? = some (out3 c N s.heap.size (1 + A) i) := by rw [Jvm.Free.Multi.fill_old _ comp cc A B dv hlt A]; exact b
    refine ⟨?_, State.heap_setCell_self hb', ?_, ?_⟩
    · rw [Nat.succ_mul]
      simp [fill3, State.setCell, f1, a]
      omega
    · show (Jvm.Free.Multi.fill (fill3 s c comp cc N A B dv i) comp cc A B dv A).vm = _
      rw [f3, d]
    · rw [Nat.succ_mul]
      show (Jvm.Free.Multi.fill (fill3 s c comp cc N A B dv i) comp cc A B dv A).slotsUsed = _
      rw [f4, u]
      omega
theorem fill3_setTop (s : State) (f : JFrame) (c comp cc : ClassId) (N A B : Nat) (dv : Value) : ∀ i, fill3 (s.setTop f) c comp cc N A B dv i = (fill3 s c comp cc N A B dv i).setTop f
  | 0 => rfl
  | i + 1 => by simp only [fill3, fill3_setTop s f c comp cc N A B dv i, State.heap_setTop, Jvm.Free.Multi.fill_setTop, State.setCell_setTop]
theorem fill3_old (s : State) (c comp cc : ClassId) (N A B : Nat) (dv : Value) {a : Addr} (ha : a < s.heap.size) : ∀ i, (fill3 s c comp cc N A B dv i).heap[a]? = s.heap[a]?
  | 0 => State.heap_pushCell_of_lt _ _ ha
  | i + 1 => by
    have f1 := (fill3_facts s c comp cc N A B dv i).1
    show ((Jvm.Free.Multi.fill (fill3 s c comp cc N A B dv i) comp cc A B dv A).setCell s.heap.size _).heap[a]? = _
    rw [State.heap_setCell_other (Nat.ne_of_gt ha), Jvm.Free.Multi.fill_old _ comp cc A B dv (show a < (fill3 s c comp cc N A B dv i).heap.size by rw [f1]; exact Nat.lt_of_lt_of_le ha (by omega)) A]
    exact fill3_old s c comp cc N A B dv ha i
theorem fill3_row (s : State) (c comp cc : ClassId) (N A B : Nat) (dv : Value) : ∀ i j, j < i → (fill3 s c comp cc N A B dv i).heap[s.heap.size + 1 + j * (1 + A)]? = some (Jvm.Free.Multi.outerC comp A (s.heap.size + 1 + j * (1 + A)) A) ∧ ∀ k, k < A → (fill3 s c comp cc N A B dv i).heap[s.heap.size + 1 + j * (1 + A) + 1 + k]? = some (Jvm.Free.Multi.innerC cc B dv)
  | 0, _, h => absurd h (Nat.not_lt_zero _)
  | i + 1, j, h => by
    have f1 := (fill3_facts s c comp cc N A B dv i).1
    rcases Nat.lt_or_ge j i with hj | hj
    · obtain ⟨r1, r2⟩ := fill3_row s c comp cc N A B dv i j hj
      have hm : j * (1 + A) + (1 + A) ≤ i * (1 + A) := by
        have := Nat.mul_le_mul_right (1 + A) (show j + 1 ≤ i from hj)
        rw [Nat.succ_mul] at this
        exact this
      refine ⟨?_, fun k hk => ?_⟩
      · show ((Jvm.Free.Multi.fill (fill3 s c comp cc N A B dv i) comp cc A B dv A).setCell s.heap.size _).heap[_]? = _
        rw [State.heap_setCell_other (show s.heap.size ≠ s.heap.size + 1 + j * (1 + A) by omega), Jvm.Free.Multi.fill_old _ comp cc A B dv (show s.heap.size + 1 + j * (1 + A) < (fill3 s c comp cc N A B dv i).heap.size by rw [f1]; omega) A]
        exact r1
      · show ((Jvm.Free.Multi.fill (fill3 s c comp cc N A B dv i) comp cc A B dv A).setCell s.heap.size _).heap[_]? = _
        rw [State.heap_setCell_other (show s.heap.size ≠ s.heap.size + 1 + j * (1 + A) + 1 + k by omega), Jvm.Free.Multi.fill_old _ comp cc A B dv (show s.heap.size + 1 + j * (1 + A) + 1 + k < (fill3 s c comp cc N A B dv i).heap.size by rw [f1]; omega) A]
        exact r2 k hk
    · obtain rfl : j = i := by omega
      obtain ⟨g1, g2, _, _⟩ := Jvm.Free.Multi.fill_facts (fill3 s c comp cc N A B dv j) comp cc A B dv A
      refine ⟨?_, fun k hk => ?_⟩
      · show ((Jvm.Free.Multi.fill (fill3 s c comp cc N A B dv j) comp cc A B dv A).setCell s.heap.size _).heap[_]? = _
        rw [State.heap_setCell_other (show s.heap.size ≠ s.heap.size + 1 + j * (1 + A) by omega), ← f1]
        exact g2
      · show ((Jvm.Free.Multi.fill (fill3 s c comp cc N A B dv j) comp cc A B dv A).setCell s.heap.size _).heap[_]? = _
        rw [State.heap_setCell_other (show s.heap.size ≠ s.heap.size + 1 + j * (1 + A) + 1 + k by omega), ← f1]
        exact Jvm.Free.Multi.fill_inner _ comp cc A B dv A k hk
theorem wp_make3 {E} {e : Env} {d : Bool} {acts : List Action} {s : State} {c comp cc c4 : ClassId} {k kc kd : Class} {t0 t1 type : FieldType} {n a b : Int32} (hk : s.vm.classes[c]? = some k) (hkind : k.kind = .array comp t0) (href : t0.isReference = true) (hkc : s.vm.classes[comp]? = some kc) (hkindc : kc.kind = .array cc t1) (href1 : t1.isReference = true) (hkd : s.vm.classes[cc]? = some kd) (hkindd : kd.kind = .array c4 type) (hn : ¬ n < 0) (ha : ¬ a < 0) (hb : ¬ b < 0)
    (hl0 : ¬ n.toNatClampNeg > e.platform.arrayLengthLimit) (hh0 : ¬ n.toNatClampNeg * componentBytes t0 > e.platform.maxHeapBytes) (hl1 : ¬ a.toNatClampNeg > e.platform.arrayLengthLimit) (hh1 : ¬ a.toNatClampNeg * componentBytes t1 > e.platform.maxHeapBytes) (hl2 : ¬ b.toNatClampNeg > e.platform.arrayLengthLimit) (hh2 : ¬ b.toNatClampNeg * componentBytes type > e.platform.maxHeapBytes) (hdf : fits type (defaultValue type) = true) (hdd : (defaultValue type).isDefault = true)
    (hc : s.heap.size + 1 + n.toNatClampNeg * (1 + a.toNatClampNeg) ≤ e.platform.maxCells) (hs : s.slotsUsed + n.toNatClampNeg + n.toNatClampNeg * (a.toNatClampNeg + a.toNatClampNeg * b.toNatClampNeg) ≤ e.platform.maxSlots) {Q} (hq : ∀ d' acts', Q s.heap.size d' acts' (fill3 s c comp cc n.toNatClampNeg a.toNatClampNeg b.toNatClampNeg (defaultValue type) n.toNatClampNeg)) :
    wp (Op.multianewarray.make c [n, a, b]) Q E e d acts s := by
  have hfind : ([a, b].find? (· < 0)) = none := by simp [ha, hb]
  rw [Op.multianewarray.make]
  simp only [wp_bind', W.ite, hn, if_false, wp_pure', W.theClass, hk, hkind, Option.some.injEq, exists_eq_left']
  refine Jvm.Free.Multi.wp_newArray hk hkind hl0 hh0 (Jvm.Free.Multi.refFits href _ (Or.inl rfl)) rfl (by omega) (by omega) ?_
  simp only [hfind]
  rw [ite_self, wp_bind', Std.Legacy.Range.forIn_eq_forIn_range']
  have hsz : ([:n.toNatClampNeg] : Std.Legacy.Range).size = n.toNatClampNeg := by simp [Std.Legacy.Range.size]
  rw [hsz]
  show wp (forIn (List.range' 0 n.toNatClampNeg 1) PUnit.unit _) _ E e d acts _
  refine wp_forIn_inv (fun rest s' => ∃ i, i ≤ n.toNatClampNeg ∧ rest = List.range' i (n.toNatClampNeg - i) ∧ s' = fill3 s c comp cc n.toNatClampNeg a.toNatClampNeg b.toNatClampNeg (defaultValue type) i) _ _ ⟨0, Nat.zero_le _, rfl, rfl⟩ ?_ ?_
  · rintro x rest s' d' acts' Q' ⟨i, hi, hl, rfl⟩ hnext
    have hlt : i < n.toNatClampNeg := by
      rcases Nat.lt_or_ge i n.toNatClampNeg with h | h
      · exact h
      · rw [show n.toNatClampNeg - i = 0 from by omega] at hl; simp at hl
    obtain ⟨rfl, hrest⟩ : x = i ∧ rest = List.range' (i + 1) (n.toNatClampNeg - (i + 1)) := by
      rw [show n.toNatClampNeg - i = (n.toNatClampNeg - (i + 1)) + 1 from by omega, List.range'_succ] at hl
      exact ⟨(List.cons.inj hl).1, (List.cons.inj hl).2⟩
    obtain ⟨f1, f2, f3, f4⟩ := fill3_facts s c comp cc n.toNatClampNeg a.toNatClampNeg b.toNatClampNeg (defaultValue type) x
    obtain ⟨o1, o2, o3⟩ := out3_facts c n.toNatClampNeg s.heap.size (1 + a.toNatClampNeg) x
    have hm1 : x * (1 + a.toNatClampNeg) + (1 + a.toNatClampNeg) ≤ n.toNatClampNeg * (1 + a.toNatClampNeg) := by
      have := Nat.mul_le_mul_right (1 + a.toNatClampNeg) (show x + 1 ≤ n.toNatClampNeg from hlt)
      rw [Nat.succ_mul] at this; exact this
    have hm2 : x * (a.toNatClampNeg + a.toNatClampNeg * b.toNatClampNeg) + (a.toNatClampNeg + a.toNatClampNeg * b.toNatClampNeg) ≤ n.toNatClampNeg * (a.toNatClampNeg + a.toNatClampNeg * b.toNatClampNeg) := by
      have := Nat.mul_le_mul_right (a.toNatClampNeg + a.toNatClampNeg * b.toNatClampNeg) (show x + 1 ≤ n.toNatClampNeg from hlt)
      rw [Nat.succ_mul] at this; exact this
    simp only [wp_bind']
    refine Jvm.Free.Multi.wp_make2 (by rw [f3]; exact hkc) hkindc href1 (by rw [f3]; exact hkd) hkindd ha hb hl1 hh1 hl2 hh2 hdf hdd (by rw [f1]; omega) (by rw [f4]; omega) (fun d2 acts2 => ?_)
    have hlt0 : s.heap.size < (fill3 s c comp cc n.toNatClampNeg a.toNatClampNeg b.toNatClampNeg (defaultValue type) x).heap.size := by rw [f1]; omega
    obtain ⟨g1, g2, g3, g4⟩ := Jvm.Free.Multi.fill_facts (fill3 s c comp cc n.toNatClampNeg a.toNatClampNeg b.toNatClampNeg (defaultValue type) x) comp cc a.toNatClampNeg b.toNatClampNeg (defaultValue type) a.toNatClampNeg
    simp only [wp_bind', W.writeLoc, wp_pure']
    refine ⟨out3 c n.toNatClampNeg s.heap.size (1 + a.toNatClampNeg) x, by rw [Jvm.Free.Multi.fill_old _ comp cc _ _ _ hlt0]; exact f2, by rw [o2]; simp, by rw [o3]; exact hlt, ?_, hnext _ _ _ ⟨x + 1, hlt, hrest, ?_⟩⟩
    · rw [o1, o2]
      simp [State.fitsSlot, State.slotType?, g3, f3, hk, hkind, Jvm.Free.Multi.refFits href _ (Or.inr ⟨_, rfl⟩)]
    · rw [f1]; rfl
  · rintro s' d' acts' ⟨i, hi, hl, rfl⟩
    have hiN : i = n.toNatClampNeg := by
      rcases Nat.lt_or_ge i n.toNatClampNeg with h | h
      · rw [show n.toNatClampNeg - i = (n.toNatClampNeg - (i + 1)) + 1 from by omega, List.range'_succ] at hl; cases hl
      · omega
    subst hiN
    simp only [wp_pure']
    exact hq _ _
