/-! CORE. An abstract heap: cells are places in a list, a reference is a place; ints, references and longs lie in three functions (place, slot).
    G: a walk of a method's body over it, from a pc on, to an end that Q takes. Run: a method's contract by such a walk.
    Values in an abstract frame: .int, .long, .null; .ref a: the cell at place a; .float k: the k-th old thing (0: the script, k + 1: the k-th String constant); .double: a local that isn't known. -/
abbrev aM : Type := Nat → Nat → Int32
abbrev aG : Type := Nat × (Nat → Nat × Nat) × (Nat → Nat → Option Nat) × (Nat → Nat → Int64)
abbrev aH : Type := aG × aM
/-- the class ids of objects, of arrays; the first cell that is ours; where old things lie; the script; the launch -/
abbrev aK : Type := va_G × (Nat → ClassId) × Nat × (Nat → Nat) × Nat × (Nat → Int32) × Launch
def a_ft (ci k : Nat) : FieldType := match ci with
  | 0 => t_Ask k | 1 => t_Box k | 2 => t_Len k | 3 => t_Lik k | 4 => t_Pla k | 5 => t_Rea k | 6 => t_Row k | 7 => t_Tab k | 8 => t_Way k | 9 => t_Led k | _ => t_Mod k
def a_isr : FieldType → Bool
  | .object _ => true
  | .array _ => true
  | _ => false
def a_aty (t : Nat) : FieldType := match t with
  | 0 => .int | 1 => .boolean | 2 => .long | 3 => .array .int | 4 => .array .boolean | 5 => .array (.array .int) | _ => .object R_Row
def a_tys (K : aK) : List (ClassId × FieldType) := (List.range 7).map (fun t => (K.2.1 t, a_aty t))
def a_tr (K : aK) (ρ : Nat → Nat) : Value → Value
  | .ref a => .ref (ρ a)
  | .float k => .ref (K.2.2.2.1 k.toNat)
  | v => v
def a_fv (ρ : Nat → Nat) (h : aH) (ci a k : Nat) : Value := if a_isr (a_ft ci k) = true then va_rf ((h.1.2.2.1 a k).map ρ) else .int (h.2 a k)
/-- the cell at place a: 0, 1: ints, booleans; 2: longs; 3 to 6: references; 10 + c: an object of the c-th class -/
def a_ce (K : aK) (ρ : Nat → Nat) (h : aH) (a : Nat) : va_E :=
  if (h.1.2.1 a).1 < 2 then .inl (K.2.1 (h.1.2.1 a).1, (h.1.2.1 a).2, .inl (h.2 a))
  else if (h.1.2.1 a).1 = 2 then .inl (K.2.1 2, (h.1.2.1 a).2, .inr (.inl (h.1.2.2.2 a)))
  else if (h.1.2.1 a).1 < 7 then .inl (K.2.1 (h.1.2.1 a).1, (h.1.2.1 a).2, .inr (.inr (.inr (.inr (fun j => (h.1.2.2.1 a j).map ρ)))))
  else .inr ((h.1.2.1 a).1 - 10, (List.range (h.1.2.1 a).2).map (a_fv ρ h ((h.1.2.1 a).1 - 10) a))
def a_ws (K : aK) (ρ : Nat → Nat) (h : aH) : va_W := (List.range h.1.1).map (fun a => (ρ a, a_ce K ρ h a))
/-- the heap H holds h, placed by ρ -/
def a_R (K : aK) (ρ : Nat → Nat) (h : aH) (H : Heap) : Prop :=
  va_P K.1 a_cl (a_ws K ρ h) H ∧ va_D (fun q => K.2.2.1 ≤ q) (a_ws K ρ h) ∧ ∀ a k b : Nat, h.1.2.2.1 a k = some b → b < h.1.1
/-- a value of an abstract frame is about cells that are there -/
def a_sc (z : Nat) : Value → Prop
  | .ref a => a < z
  | _ => True
/-- .. and may stand in a local -/
def a_sl (z : Nat) : Value → Prop
  | .ref a => a < z
  | .long _ => False
  | _ => True
def a_pl (K : aK) (ρ : Nat → Nat) : Nat → List Value → List (Nat × Value)
  | _, [] => []
  | n, .double _ :: L => a_pl K ρ (n + 1) L
  | n, v :: L => (n, a_tr K ρ v) :: a_pl K ρ (n + 1) L
def a_w0 : List Cond := lw_tbl.filter goodWord
/-- words that the tables alone decide, but that no list of good words takes -/
def a_isN : Cond → Bool
  | .declares _ => true
  | .castable .. => true
  | .methodLinkNest .. => true
  | _ => false
def a_N : List Cond := lw_tbl.filter a_isN
/-- what the class throws -/
def a_E : List String := ["java/lang/IllegalArgumentException", "java/lang/IllegalStateException", "java/lang/IndexOutOfBoundsException", "java/util/NoSuchElementException"]
def a_pow (j : Nat) : Int32 := if j = 0 then 1 else if j = 1 then 6 else if j = 2 then 36 else 216
/-- what the tables and old cells say, all along -/
def a_VF (K : aK) (U : State) (H : Heap) : Prop :=
  va_K K.1 a_cl (a_tys K) U ∧ K.2.2.1 ≤ H.size ∧ K.2.2.2.2.2.2.stackTraces = false ∧
  (∀ (k : Nat) (q : String × Nat × String), a_S[k]? = some q → vk_R q.1 q.2.1 q.2.2 (K.2.2.2.1 (k + 1)) U) ∧
  vx_Zq Bundle.tN "UNASSIGNED_STACK" Bundle.steD (fun q => K.2.2.1 ≤ q) U H ∧ vx_Zq Bundle.tN "SUPPRESSED_SENTINEL" Bundle.listD (fun q => K.2.2.1 ≤ q) U H ∧
  (∀ w ∈ a_N, va_Nw w U) ∧ va_AO R_Row U ∧ va_AOA .int U ∧ va_AOA .boolean U ∧ va_AOA (.array .int) U ∧
  va_Z R_Pla "POWERS" "[I" (.ref (K.2.2.2.1 200)) (fun q => K.2.2.1 ≤ q) U H ∧ va_T .int (K.2.2.2.1 200) 4 (fun j => .int (a_pow j)) (fun q => K.2.2.1 ≤ q) U H ∧
  vk_S 19 a_len a_byt (fun k => K.2.2.2.1 (k + 1)) (fun k => K.2.2.2.1 (k + 101)) (fun q => K.2.2.1 ≤ q) U H ∧ va_Z "java/lang/String" "COMPACT_STRINGS" "Z" (.int 1) (fun q => K.2.2.1 ≤ q) U H ∧
  (va_Z "jdk/internal/util/Preconditions" "SIOOBE_FORMATTER" "Ljava/util/function/BiFunction;" .null (fun q => K.2.2.1 ≤ q) U H ∨ va_Z "jdk/internal/util/Preconditions" "SIOOBE_FORMATTER" "Ljava/util/function/BiFunction;" (.ref (K.2.2.2.1 300)) (fun q => K.2.2.1 ≤ q) U H) ∧ (∀ E ∈ a_E, ∀ F ∈ a_E, E ≠ F → va_Nc E F U)
def a_rm (d mc ms : Nat) : Room := { frames := d, cells := mc, slots := ms, locals := 64 * d }
abbrev aQ : Type := (Option Value ⊕ String) → aH → Prop
def a_Qc (K : aK) (ρ0 : Nat → Nat) (z0 : Nat) (Q : aQ) : Array Value → State → Outcome → State → Prop := fun _ st o t =>
  ∃ (v : Option Value) (ρ : Nat → Nat) (h : aH), o = .returned (v.map (a_tr K ρ)) ∧ a_R K ρ h t.heap ∧ (∀ a, a < z0 → ρ a = ρ0 a) ∧ z0 ≤ h.1.1 ∧ (∀ x, v = some x → a_sc h.1.1 x) ∧ va_F (fun q => K.2.2.1 ≤ q) st t ∧ Q (.inl v) h
def a_XC (K : aK) (ρ0 : Nat → Nat) (z0 : Nat) (Q : aQ) : String → State → State → Prop := fun E st t =>
  ∃ (ρ : Nat → Nat) (h : aH), a_R K ρ h t.heap ∧ (∀ a, a < z0 → ρ a = ρ0 a) ∧ z0 ≤ h.1.1 ∧ va_F (fun q => K.2.2.1 ≤ q) st t ∧ Q (.inr E) h
def a_cw (M : aMI) : Cond := match M.2.2.2.2.2 with
  | [] => .code M.2.2.2.2.1 M.2.1 M.2.2.1 M.2.2.2.1
  | hh => .codeWith M.2.2.2.2.1 M.2.1 M.2.2.1 M.2.2.2.1 hh
/-- what a body has at hand -/
def a_cx (K : aK) (M : aMI) (p : Program) (s : State) (m : MethodId) (args : Array Value) (meth : Method) (c : Code) : Prop :=
  p.tables.exec = Jvm.exec ∧ c.code = M.2.1 ∧ c.maxLocals = M.2.2.1 ∧ s.vm.findClass M.1 = some m.cls ∧ meth.sig.returnType = M.2.2.2.1 ∧ (∀ w ∈ a_w0, w.before args s = true) ∧ meth.locks = false ∧ meth.name = M.2.2.2.2.1.name ∧
  c.exceptionTable.toList = tableOf M.2.2.2.2.2 ∧ a_VF K s s.heap ∧ (M.2.2.2.2.1.name = "law" → va_X (K.2.2.2.1 0) K.2.2.2.2.1 K.2.2.2.2.2.1 s s.heap ∧ K.2.2.2.1 0 < s.heap.size ∧ K.2.2.2.1 0 < K.2.2.1)
def G (K : aK) (M : aMI) (d bc bs pc : Nat) (L S : List Value) (h : aH) (Q : aQ) : Prop :=
  ∀ (p : Program) (e : Env) (s : State) (m : MethodId) (args : Array Value) (below : List Frame) (meth : Method) (c : Code) (ρ0 : Nat → Nat) (z0 mc ms : Nat), a_cx K M p s m args meth c →
  ∀ (ρ : Nat → Nat) (H : Heap) (locs : List Loc) (cells slots : Nat) (ls : Array Slot), a_R K ρ h H → (∀ a, a < z0 → ρ a = ρ0 a) → z0 ≤ h.1.1 → (∀ v ∈ L, a_sl h.1.1 v) → (∀ v ∈ S, a_sc h.1.1 v) →
    lv_has ls M.2.2.1 (a_pl K ρ 0 L) → va_S (fun q => K.2.2.1 ≤ q) s.heap H locs → cells + bc ≤ mc → slots + bs ≤ ms →
    W p K.2.2.2.2.2.2 e (a_rm d mc ms) s m args below meth c H locs cells slots (vx_MQ below (a_Qc K ρ0 z0 Q) (a_XC K ρ0 z0 Q) args s mc ms (fun q => K.2.2.1 ≤ q)) (F0 m pc ls (S.map (a_tr K ρ)))
def a_Pc (K : aK) (M : aMI) (av : List Value) (ρ0 : Nat → Nat) (h : aH) : Array Value → State → Prop := fun v U =>
  v = (av.map (a_tr K ρ0)).toArray ∧ a_VF K U U.heap ∧ a_R K ρ0 h U.heap ∧ (∀ v ∈ av, a_sl h.1.1 v) ∧ M.2.2.2.2.1.name ≠ "law"
def Run (K : aK) (M : aMI) (d bc bs : Nat) (av : List Value) (h : aH) (Q : aQ) : Prop :=
  ∀ ρ0 : Nat → Nat, vx_Met K.2.2.2.2.2.2 M.2.2.2.2.1 (a_cw M :: a_w0) (a_rm d bc bs) (a_Pc K M av ρ0 h) (a_Qc K ρ0 h.1.1 Q) (a_XC K ρ0 h.1.1 Q) bc bs (fun q => K.2.2.1 ≤ q)
-- small facts
theorem a_tr_cat (K : aK) (ρ : Nat → Nat) (v : Value) : (a_tr K ρ v).category = v.category := by cases v <;> rfl
theorem a_tr_agree {K : aK} {ρ ρ' : Nat → Nat} {z : Nat} (hρ : ∀ a, a < z → ρ' a = ρ a) {v : Value} (hv : a_sc z v) : a_tr K ρ' v = a_tr K ρ v := by
  cases v <;> first | rfl | (simp only [a_tr]; rw [hρ _ hv])
theorem a_sl_sc {z : Nat} {v : Value} (h : a_sl z v) : a_sc z v := by cases v <;> first | trivial | exact h
theorem a_sc_mono {z z' : Nat} (hz : z ≤ z') {v : Value} (h : a_sc z v) : a_sc z' v := by cases v <;> first | trivial | exact Nat.lt_of_lt_of_le h hz
theorem a_sl_mono {z z' : Nat} (hz : z ≤ z') {v : Value} (h : a_sl z v) : a_sl z' v := by cases v <;> first | trivial | exact h | exact Nat.lt_of_lt_of_le h hz
theorem a_map_agree {K : aK} {ρ ρ' : Nat → Nat} {z : Nat} (hρ : ∀ a, a < z → ρ' a = ρ a) {S : List Value} (hS : ∀ v ∈ S, a_sc z v) : S.map (a_tr K ρ') = S.map (a_tr K ρ) :=
  List.map_congr_left fun v hv => a_tr_agree hρ (hS v hv)
theorem a_pl_agree {K : aK} {ρ ρ' : Nat → Nat} {z : Nat} (hρ : ∀ a, a < z → ρ' a = ρ a) : ∀ (L : List Value) (n : Nat), (∀ v ∈ L, a_sl z v) → a_pl K ρ' n L = a_pl K ρ n L
  | [], n, _ => rfl
  | v :: L, n, h => by
    have ih := a_pl_agree (K := K) hρ L (n + 1) (fun w hw => h w (List.mem_cons_of_mem _ hw))
    have hv := a_tr_agree (K := K) hρ (a_sl_sc (h v List.mem_cons_self))
    cases v <;> simp only [a_pl] <;> first | exact ih | rw [ih, hv]
theorem a_pl_mem {K : aK} {ρ : Nat → Nat} : ∀ (L : List Value) (n : Nat) (q : Nat × Value), q ∈ a_pl K ρ n L → ∃ (j : Nat) (v : Value), L[j]? = some v ∧ (∀ x, v ≠ .double x) ∧ q = (n + j, a_tr K ρ v)
  | [], n, q, h => by simp [a_pl] at h
  | v :: L, n, q, h => by
    have tl : q ∈ a_pl K ρ (n + 1) L → ∃ (j : Nat) (w : Value), (v :: L)[j]? = some w ∧ (∀ x, w ≠ .double x) ∧ q = (n + j, a_tr K ρ w) := fun h => by
      obtain ⟨j, w, h1, h2, h3⟩ := a_pl_mem L (n + 1) q h
      exact ⟨j + 1, w, by simpa using h1, h2, by rw [h3]; congr 1; omega⟩
    by_cases hd : ∃ x, v = .double x
    · obtain ⟨x, rfl⟩ := hd
      exact tl (by simpa only [a_pl] using h)
    · have e : a_pl K ρ n (v :: L) = (n, a_tr K ρ v) :: a_pl K ρ (n + 1) L := by
        cases v <;> first | rfl | exact absurd ⟨_, rfl⟩ hd
      rw [e] at h
      rcases List.mem_cons.mp h with rfl | h
      · exact ⟨0, v, rfl, fun x hx => hd ⟨x, hx⟩, rfl⟩
      · exact tl h
theorem a_pl_in {K : aK} {ρ : Nat → Nat} : ∀ (L : List Value) (n j : Nat) (v : Value), L[j]? = some v → (∀ x, v ≠ .double x) → (n + j, a_tr K ρ v) ∈ a_pl K ρ n L
  | [], n, j, v, h, _ => by simp at h
  | w :: L, n, 0, v, h, hd => by
    obtain rfl : w = v := by simpa using h
    cases w <;> first | exact absurd rfl (hd _) | exact List.mem_cons_self
  | w :: L, n, j + 1, v, h, hd => by
    have ih := a_pl_in (K := K) (ρ := ρ) L (n + 1) j v (by simpa using h) hd
    have e : n + 1 + j = n + (j + 1) := by omega
    rw [e] at ih
    cases w <;> simp only [a_pl] <;> first | exact ih | exact List.mem_cons_of_mem _ ih
theorem a_lv_at {K : aK} {ρ : Nat → Nat} {ls : Array Slot} {nL : Nat} {L : List Value} (h : lv_has ls nL (a_pl K ρ 0 L)) {j : Nat} {v : Value} (hj : L[j]? = some v) (hd : ∀ x, v ≠ .double x) : ls[j]? = some (.val (a_tr K ρ v)) := by
  have := h.2.2 _ (a_pl_in (K := K) (ρ := ρ) L 0 j v hj hd)
  simpa using this
theorem a_lv_sub {K : aK} {ρ : Nat → Nat} {ls : Array Slot} {nL i : Nat} {L : List Value} {v : Value} (hn : i < nL) (hL : ∀ w ∈ L, ∃ z, a_sl z w) (h : lv_has ls nL ((i, a_tr K ρ v) :: (a_pl K ρ 0 L).filter (fun q => !(q.1 == i) && !(q.1 + 1 == i && q.2.category == 2)))) : lv_has ls nL (a_pl K ρ 0 (L.set i v)) := by
  refine ⟨h.1, h.2.1, fun q hq => h.2.2 q ?_⟩
  obtain ⟨j, w, h1, h2, rfl⟩ := a_pl_mem _ _ _ hq
  rw [Nat.zero_add]
  by_cases hij : j = i
  · subst hij
    rw [List.getElem?_set] at h1
    simp only [ite_true] at h1
    split at h1
    · obtain rfl := Option.some.inj h1
      exact List.mem_cons_self
    · simp at h1
  · have h3 : L[j]? = some w := by
      rw [List.getElem?_set] at h1
      rw [if_neg (fun e => hij e.symm)] at h1
      exact h1
    refine List.mem_cons_of_mem _ (List.mem_filter.mpr ⟨by simpa using a_pl_in (K := K) (ρ := ρ) L 0 j w h3 h2, ?_⟩)
    have hc : ¬ (a_tr K ρ w).category = 2 := by
      rw [a_tr_cat]
      obtain ⟨z, hz⟩ := hL w (List.mem_of_getElem? h3)
      cases w <;> simp [Value.category] <;> first | exact hz | exact absurd rfl (h2 _)
    simp [hij, hc]
theorem a_ws_get {K : aK} {ρ : Nat → Nat} {h : aH} {a : Nat} (ha : a < h.1.1) : (a_ws K ρ h)[a]? = some (ρ a, a_ce K ρ h a) := by simp [a_ws, ha]
theorem a_ws_set {K : aK} {ρ : Nat → Nat} {h h' : aH} {a : Nat} (hz : h'.1.1 = h.1.1) (he : ∀ b, b ≠ a → a_ce K ρ h' b = a_ce K ρ h b) : (a_ws K ρ h).set a (ρ a, a_ce K ρ h' a) = a_ws K ρ h' := by
  apply List.ext_getElem?
  intro i
  rw [List.getElem?_set]
  by_cases hi : a = i
  · subst hi
    by_cases hl : a < h.1.1
    · rw [if_pos rfl, if_pos (by simpa [a_ws] using hl), a_ws_get (by rw [hz]; exact hl)]
    · rw [if_pos rfl, if_neg (by simpa [a_ws] using hl)]
      simp [a_ws, hz, hl]
  · rw [if_neg hi]
    by_cases hl : i < h.1.1
    · rw [a_ws_get hl, a_ws_get (by rw [hz]; exact hl), he i (Ne.symm hi)]
    · simp [a_ws, hz, hl]
theorem a_w0_in {w : Cond} (h : w ∈ lw_tbl) (hg : goodWord w = true) : w ∈ a_w0 := List.mem_filter.mpr ⟨h, hg⟩
theorem a_w0_good : GoodIn a_w0 a_w0 := fun w hw => ⟨hw, good_of_word (List.mem_filter.mp hw).2⟩
theorem a_lvK {K : aK} {ρ ρ' : Nat → Nat} {z : Nat} {L : List Value} {ls : Array Slot} {n : Nat} (hρ : ∀ a, a < z → ρ' a = ρ a) (hL : ∀ v ∈ L, a_sl z v) (h : lv_has ls n (a_pl K ρ 0 L)) : lv_has ls n (a_pl K ρ' 0 L) := by
  rw [a_pl_agree hρ L 0 hL]; exact h
-- what a walk may be changed to
theorem G.imp {K : aK} {M : aMI} {d bc bs pc : Nat} {L S : List Value} {h : aH} {Q Q' : aQ} (hQ : ∀ o h, Q o h → Q' o h) (g : G K M d bc bs pc L S h Q) : G K M d bc bs pc L S h Q' := by
  intro p e s m args below meth c ρ0 z0 mc ms C ρ H locs cells slots ls h1 h2 h3 h4 h5 h6 h7 h8 h9 T hT X
  obtain ⟨t, st, o, r1, r2, r3⟩ := g p e s m args below meth c ρ0 z0 mc ms C ρ H locs cells slots ls h1 h2 h3 h4 h5 h6 h7 h8 h9 T hT X
  refine ⟨t, st, o, r1, r2, ?_⟩
  rcases r3 with ⟨⟨v, ρ', h', q1, q2, q3, q4, q5, q6, q7⟩, r4⟩ | ⟨q, rfl, E, ce, L', ⟨ρ', h', q2, q3, q4, q6, q7⟩, r5⟩
  · exact Or.inl ⟨⟨v, ρ', h', q1, q2, q3, q4, q5, q6, hQ _ _ q7⟩, r4⟩
  · exact Or.inr ⟨q, rfl, E, ce, L', ⟨ρ', h', q2, q3, q4, q6, hQ _ _ q7⟩, r5⟩
theorem Run.imp {K : aK} {M : aMI} {d bc bs : Nat} {av : List Value} {h : aH} {Q Q' : aQ} (hQ : ∀ o h, Q o h → Q' o h) (g : Run K M d bc bs av h Q) : Run K M d bc bs av h Q' := by
  intro ρ0 p e ha hc hk s m args below hf happ hp hK
  obtain ⟨t, o, st, r1, r2, r3⟩ := g ρ0 p e ha hc hk s m args below hf happ hp hK
  refine ⟨t, o, st, r1, r2, ?_⟩
  rcases r3 with ⟨⟨v, ρ', h', q1, q2, q3, q4, q5, q6, q7⟩, r4⟩ | ⟨q, rfl, E, ce, L', ⟨ρ', h', q2, q3, q4, q6, q7⟩, r5⟩
  · exact Or.inl ⟨⟨v, ρ', h', q1, q2, q3, q4, q5, q6, hQ _ _ q7⟩, r4⟩
  · exact Or.inr ⟨q, rfl, E, ce, L', ⟨ρ', h', q2, q3, q4, q6, hQ _ _ q7⟩, r5⟩
