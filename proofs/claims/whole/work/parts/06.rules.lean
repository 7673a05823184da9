/-! RULES 1: locals, stack, numbers, branches (made by wip/gen/rules.py) -/
section
variable {K : aK} {M : aMI} {d bc bs pc : Nat} {L S : List Value} {h : aH} {Q : aQ}
theorem sc_tl {z : Nat} {v : Value} {S : List Value} (h : ∀ w ∈ v :: S, a_sc z w) : ∀ w ∈ S, a_sc z w := fun w hw => h w (List.mem_cons_of_mem _ hw)
theorem sc_co {z : Nat} {v : Value} {S : List Value} (hv : a_sc z v) (h : ∀ w ∈ S, a_sc z w) : ∀ w ∈ v :: S, a_sc z w := fun w hw => (List.mem_cons.mp hw).elim (fun e => e ▸ hv) (h w)
theorem sl_set {z i : Nat} {v : Value} {L : List Value} (hv : a_sl z v) (h : ∀ w ∈ L, a_sl z w) : ∀ w ∈ L.set i v, a_sl z w := fun w hw => (List.mem_or_eq_of_mem_set hw).elim (h w) (fun e => e ▸ hv)
/-- a step that leaves heap and locals -/
theorem g_s {pc' : Nat} {S' : List Value} (hS : ∀ z, (∀ v ∈ S, a_sc z v) → ∀ v ∈ S', a_sc z v)
    (w : ∀ (p : Program) (l : Launch) (e : Env) (R : Room) (s : State) (m : MethodId) (args : Array Value) (below : List Frame) (meth : Method) (c : Code) (H : Heap) (locs : List Loc) (cells slots : Nat) (Qw : State → Prop) (ls : Array Slot) (ρ : Nat → Nat), p.tables.exec = Jvm.exec → c.code = M.2.1 → lv_has ls M.2.2.1 (a_pl K ρ 0 L) →
      W p l e R s m args below meth c H locs cells slots Qw (F0 m pc' ls (S'.map (a_tr K ρ))) → W p l e R s m args below meth c H locs cells slots Qw (F0 m pc ls (S.map (a_tr K ρ))))
    (k : G K M d bc bs pc' L S' h Q) : G K M d bc bs pc L S h Q := by
  intro p e s m args below meth c ρ0 z0 mc ms C ρ H locs cells slots ls h1 h2 h3 h4 h5 h6 h7 h8 h9
  exact w _ _ _ _ _ _ _ _ _ _ _ _ _ _ _ _ ρ C.1 C.2.1 h6 (k p e s m args below meth c ρ0 z0 mc ms C ρ H locs cells slots ls h1 h2 h3 h4 (hS _ h5) h6 h7 h8 h9)
/-- a branch -/
theorem g_b {P : Prop} {pt pf : Nat} {S' : List Value} (hS : ∀ z, (∀ v ∈ S, a_sc z v) → ∀ v ∈ S', a_sc z v)
    (w : ∀ (p : Program) (l : Launch) (e : Env) (R : Room) (s : State) (m : MethodId) (args : Array Value) (below : List Frame) (meth : Method) (c : Code) (H : Heap) (locs : List Loc) (cells slots : Nat) (Qw : State → Prop) (ls : Array Slot) (ρ : Nat → Nat), p.tables.exec = Jvm.exec → c.code = M.2.1 →
      (P → W p l e R s m args below meth c H locs cells slots Qw (F0 m pt ls (S'.map (a_tr K ρ)))) → (¬ P → W p l e R s m args below meth c H locs cells slots Qw (F0 m pf ls (S'.map (a_tr K ρ)))) → W p l e R s m args below meth c H locs cells slots Qw (F0 m pc ls (S.map (a_tr K ρ))))
    (kt : P → G K M d bc bs pt L S' h Q) (kf : ¬ P → G K M d bc bs pf L S' h Q) : G K M d bc bs pc L S h Q := by
  intro p e s m args below meth c ρ0 z0 mc ms C ρ H locs cells slots ls h1 h2 h3 h4 h5 h6 h7 h8 h9
  exact w _ _ _ _ _ _ _ _ _ _ _ _ _ _ _ _ ρ C.1 C.2.1 (fun q => kt q p e s m args below meth c ρ0 z0 mc ms C ρ H locs cells slots ls h1 h2 h3 h4 (hS _ h5) h6 h7 h8 h9) (fun q => kf q p e s m args below meth c ρ0 z0 mc ms C ρ H locs cells slots ls h1 h2 h3 h4 (hS _ h5) h6 h7 h8 h9)
/-- a local is set -/
theorem g_l {pc' i : Nat} {v : Value} {S' : List Value} (hS : ∀ z, (∀ v ∈ S, a_sc z v) → (∀ v ∈ S', a_sc z v) ∧ ((∀ w ∈ L, a_sl z w) → a_sl z v))
    (w : ∀ (p : Program) (l : Launch) (e : Env) (R : Room) (s : State) (m : MethodId) (args : Array Value) (below : List Frame) (meth : Method) (c : Code) (H : Heap) (locs : List Loc) (cells slots : Nat) (Qw : State → Prop) (ls : Array Slot) (ρ : Nat → Nat), p.tables.exec = Jvm.exec → c.code = M.2.1 → lv_has ls M.2.2.1 (a_pl K ρ 0 L) →
      (∀ ls' : Array Slot, lv_has ls' M.2.2.1 ((i, a_tr K ρ v) :: (a_pl K ρ 0 L).filter (fun q => !(q.1 == i) && !(q.1 + 1 == i && q.2.category == 2))) → W p l e R s m args below meth c H locs cells slots Qw (F0 m pc' ls' (S'.map (a_tr K ρ)))) → W p l e R s m args below meth c H locs cells slots Qw (F0 m pc ls (S.map (a_tr K ρ))))
    (hn : i < M.2.2.1) (k : G K M d bc bs pc' (L.set i v) S' h Q) : G K M d bc bs pc L S h Q := by
  intro p e s m args below meth c ρ0 z0 mc ms C ρ H locs cells slots ls h1 h2 h3 h4 h5 h6 h7 h8 h9
  exact w _ _ _ _ _ _ _ _ _ _ _ _ _ _ _ _ ρ C.1 C.2.1 h6 (fun ls' hl => k p e s m args below meth c ρ0 z0 mc ms C ρ H locs cells slots ls' h1 h2 h3 (sl_set ((hS _ h5).2 h4) h4) (hS _ h5).1 (a_lv_sub hn (fun w hw => ⟨_, h4 w hw⟩) hl) h7 h8 h9)
/-- locals may be forgotten -/
def a_wk : List Value → List Value → Bool
  | [], [] => true
  | .double _ :: L', _ :: L => a_wk L' L
  | _ :: L', _ :: L => false
  | _, _ => false

theorem g_iconst {n : Int} {v : Int32} (hd : decode M.2.1 pc = .ok (.iconst n, 1)) (hv : Int32.ofInt n = v) (k : G K M d bc bs (pc + 1) L (.int v :: S) h Q) : G K M d bc bs pc L (S) h Q :=
  g_s (fun _ h1 => sc_co (by trivial) (h1)) (fun p l e R s m args below meth c H locs cells slots Qw ls ρ hx hb hl w => lv_iconst hx hb hd hv w) k
theorem g_bipush {n : Int} {v : Int32} (hd : decode M.2.1 pc = .ok (.bipush n, 2)) (hv : (Int8.ofInt n).toInt32 = v) (k : G K M d bc bs (pc + 2) L (.int v :: S) h Q) : G K M d bc bs pc L (S) h Q :=
  g_s (fun _ h1 => sc_co (by trivial) (h1)) (fun p l e R s m args below meth c H locs cells slots Qw ls ρ hx hb hl w => lv_bipush hx hb hd hv w) k
theorem g_sipush {n : Int} {v : Int32} (hd : decode M.2.1 pc = .ok (.sipush n, 3)) (hv : (Int16.ofInt n).toInt32 = v) (k : G K M d bc bs (pc + 3) L (.int v :: S) h Q) : G K M d bc bs pc L (S) h Q :=
  g_s (fun _ h1 => sc_co (by trivial) (h1)) (fun p l e R s m args below meth c H locs cells slots Qw ls ρ hx hb hl w => lv_sipush hx hb hd hv w) k
theorem g_lconst {n : Fin 2} {v : Int64} (hd : decode M.2.1 pc = .ok (.lconst n, 1)) (hv : Int64.ofNat (n : Nat) = v) (k : G K M d bc bs (pc + 1) L (.long v :: S) h Q) : G K M d bc bs pc L (S) h Q :=
  g_s (fun _ h1 => sc_co (by trivial) (h1)) (fun p l e R s m args below meth c H locs cells slots Qw ls ρ hx hb hl w => lv_lconst hx hb hd hv w) k
theorem g_null  (hd : decode M.2.1 pc = .ok (.aconst_null, 1)) (k : G K M d bc bs (pc + 1) L (.null :: S) h Q) : G K M d bc bs pc L (S) h Q :=
  g_s (fun _ h1 => sc_co (by trivial) (h1)) (fun p l e R s m args below meth c H locs cells slots Qw ls ρ hx hb hl w => lv_null hx hb hd w) k
theorem g_iadd {x y : Int32} (hd : decode M.2.1 pc = .ok (.iadd, 1)) (k : G K M d bc bs (pc + 1) L (.int (x + y) :: S) h Q) : G K M d bc bs pc L (.int y :: .int x :: S) h Q :=
  g_s (fun _ h1 => sc_co (by trivial) (sc_tl (sc_tl (h1)))) (fun p l e R s m args below meth c H locs cells slots Qw ls ρ hx hb hl w => lv_iadd hx hb hd w) k
theorem g_isub {x y : Int32} (hd : decode M.2.1 pc = .ok (.isub, 1)) (k : G K M d bc bs (pc + 1) L (.int (x - y) :: S) h Q) : G K M d bc bs pc L (.int y :: .int x :: S) h Q :=
  g_s (fun _ h1 => sc_co (by trivial) (sc_tl (sc_tl (h1)))) (fun p l e R s m args below meth c H locs cells slots Qw ls ρ hx hb hl w => lv_isub hx hb hd w) k
theorem g_imul {x y : Int32} (hd : decode M.2.1 pc = .ok (.imul, 1)) (k : G K M d bc bs (pc + 1) L (.int (x * y) :: S) h Q) : G K M d bc bs pc L (.int y :: .int x :: S) h Q :=
  g_s (fun _ h1 => sc_co (by trivial) (sc_tl (sc_tl (h1)))) (fun p l e R s m args below meth c H locs cells slots Qw ls ρ hx hb hl w => lv_imul hx hb hd w) k
theorem g_iand {x y : Int32} (hd : decode M.2.1 pc = .ok (.iand, 1)) (k : G K M d bc bs (pc + 1) L (.int (x &&& y) :: S) h Q) : G K M d bc bs pc L (.int y :: .int x :: S) h Q :=
  g_s (fun _ h1 => sc_co (by trivial) (sc_tl (sc_tl (h1)))) (fun p l e R s m args below meth c H locs cells slots Qw ls ρ hx hb hl w => lv_iand hx hb hd w) k
theorem g_ior {x y : Int32} (hd : decode M.2.1 pc = .ok (.ior, 1)) (k : G K M d bc bs (pc + 1) L (.int (x ||| y) :: S) h Q) : G K M d bc bs pc L (.int y :: .int x :: S) h Q :=
  g_s (fun _ h1 => sc_co (by trivial) (sc_tl (sc_tl (h1)))) (fun p l e R s m args below meth c H locs cells slots Qw ls ρ hx hb hl w => lv_ior hx hb hd w) k
theorem g_ixor {x y : Int32} (hd : decode M.2.1 pc = .ok (.ixor, 1)) (k : G K M d bc bs (pc + 1) L (.int (x ^^^ y) :: S) h Q) : G K M d bc bs pc L (.int y :: .int x :: S) h Q :=
  g_s (fun _ h1 => sc_co (by trivial) (sc_tl (sc_tl (h1)))) (fun p l e R s m args below meth c H locs cells slots Qw ls ρ hx hb hl w => lv_ixor hx hb hd w) k
theorem g_ishl {x y : Int32} (hd : decode M.2.1 pc = .ok (.ishl, 1)) (k : G K M d bc bs (pc + 1) L (.int (x <<< (y &&& 31)) :: S) h Q) : G K M d bc bs pc L (.int y :: .int x :: S) h Q :=
  g_s (fun _ h1 => sc_co (by trivial) (sc_tl (sc_tl (h1)))) (fun p l e R s m args below meth c H locs cells slots Qw ls ρ hx hb hl w => lv_ishl hx hb hd w) k
theorem g_ishr {x y : Int32} (hd : decode M.2.1 pc = .ok (.ishr, 1)) (k : G K M d bc bs (pc + 1) L (.int (x >>> (y &&& 31)) :: S) h Q) : G K M d bc bs pc L (.int y :: .int x :: S) h Q :=
  g_s (fun _ h1 => sc_co (by trivial) (sc_tl (sc_tl (h1)))) (fun p l e R s m args below meth c H locs cells slots Qw ls ρ hx hb hl w => lv_ishr hx hb hd w) k
theorem g_iushr {x y : Int32} (hd : decode M.2.1 pc = .ok (.iushr, 1)) (k : G K M d bc bs (pc + 1) L (.int ((x.toUInt32 >>> (y.toUInt32 &&& Int32.toUInt32 31)).toInt32) :: S) h Q) : G K M d bc bs pc L (.int y :: .int x :: S) h Q :=
  g_s (fun _ h1 => sc_co (by trivial) (sc_tl (sc_tl (h1)))) (fun p l e R s m args below meth c H locs cells slots Qw ls ρ hx hb hl w => lv_iushr hx hb hd rfl w) k
theorem g_idiv {x y : Int32} (hd : decode M.2.1 pc = .ok (.idiv, 1)) (hne : ¬ y = 0) (k : G K M d bc bs (pc + 1) L (.int (x / y) :: S) h Q) : G K M d bc bs pc L (.int y :: .int x :: S) h Q :=
  g_s (fun _ h1 => sc_co (by trivial) (sc_tl (sc_tl (h1)))) (fun p l e R s m args below meth c H locs cells slots Qw ls ρ hx hb hl w => lv_idiv hx hb hd hne w) k
theorem g_irem {x y : Int32} (hd : decode M.2.1 pc = .ok (.irem, 1)) (hne : ¬ y = 0) (k : G K M d bc bs (pc + 1) L (.int (x % y) :: S) h Q) : G K M d bc bs pc L (.int y :: .int x :: S) h Q :=
  g_s (fun _ h1 => sc_co (by trivial) (sc_tl (sc_tl (h1)))) (fun p l e R s m args below meth c H locs cells slots Qw ls ρ hx hb hl w => lv_irem hx hb hd hne (by rw [irem_eq_mod]; exact w)) k
theorem g_i2l {x : Int32} (hd : decode M.2.1 pc = .ok (.i2l, 1)) (k : G K M d bc bs (pc + 1) L (.long x.toInt64 :: S) h Q) : G K M d bc bs pc L (.int x :: S) h Q :=
  g_s (fun _ h1 => sc_co (by trivial) (sc_tl (h1))) (fun p l e R s m args below meth c H locs cells slots Qw ls ρ hx hb hl w => lv_i2l hx hb hd rfl w) k
theorem g_lcmp {x y : Int64} (hd : decode M.2.1 pc = .ok (.lcmp, 1)) (k : G K M d bc bs (pc + 1) L (.int (lg_cmp x y) :: S) h Q) : G K M d bc bs pc L (.long y :: .long x :: S) h Q :=
  g_s (fun _ h1 => sc_co (by trivial) (sc_tl (sc_tl (h1)))) (fun p l e R s m args below meth c H locs cells slots Qw ls ρ hx hb hl w => W.lcmp hx hb hd w) k
theorem g_pop {v : Value} (hd : decode M.2.1 pc = .ok (.pop, 1)) (hv : v.category = 1) (k : G K M d bc bs (pc + 1) L S h Q) : G K M d bc bs pc L (v :: S) h Q :=
  g_s (fun _ h1 => sc_tl h1) (fun p l e R s m args below meth c H locs cells slots Qw ls ρ hx hb hl w => lv_pop hx hb hd (by rw [a_tr_cat]; exact hv) w) k
theorem g_dup {v : Value} (hd : decode M.2.1 pc = .ok (.dup, 1)) (hv : v.category = 1) (k : G K M d bc bs (pc + 1) L (v :: v :: S) h Q) : G K M d bc bs pc L (v :: S) h Q :=
  g_s (fun _ h1 => sc_co (h1 _ List.mem_cons_self) h1) (fun p l e R s m args below meth c H locs cells slots Qw ls ρ hx hb hl w => lv_dup hx hb hd (by rw [a_tr_cat]; exact hv) w) k
theorem g_dup2 {v u : Value} (hd : decode M.2.1 pc = .ok (.dup2, 1)) (hv : v.category = 1) (hu : u.category = 1) (k : G K M d bc bs (pc + 1) L (v :: u :: v :: u :: S) h Q) : G K M d bc bs pc L (v :: u :: S) h Q :=
  g_s (fun _ h1 => sc_co (h1 _ List.mem_cons_self) (sc_co (h1 _ (List.mem_cons_of_mem _ List.mem_cons_self)) h1)) (fun p l e R s m args below meth c H locs cells slots Qw ls ρ hx hb hl w => lv_dup2_11 hx hb hd (by rw [a_tr_cat]; exact hv) (by rw [a_tr_cat]; exact hu) w) k
theorem g_goto {off : Int} {tgt : Nat} (hd : decode M.2.1 pc = .ok (.goto off, 3)) (ht : (pc : Int) + off = (tgt : Int)) (k : G K M d bc bs tgt L S h Q) : G K M d bc bs pc L S h Q :=
  g_s (fun _ h1 => h1) (fun p l e R s m args below meth c H locs cells slots Qw ls ρ hx hb hl w => lv_goto hx hb hd ht w) k
theorem g_iload {i : Nat} {x : Int32} (hd : decode M.2.1 pc = .ok (.iload i, 2)) (hi : L[i]? = some (.int x)) (k : G K M d bc bs (pc + 2) L (.int x :: S) h Q) : G K M d bc bs pc L S h Q :=
  g_s (fun _ h1 => sc_co (by trivial) h1) (fun p l e R s m args below meth c H locs cells slots Qw ls ρ hx hb hl w => lv_iload hx hb hd (a_lv_at hl hi (fun _ q => by cases q)) w) k
theorem g_iload_n {i : Nat} {x : Int32} {j : Fin 4} (hd : decode M.2.1 pc = .ok (.iload_n j, 1)) (hj : (j : Nat) = i) (hi : L[i]? = some (.int x)) (k : G K M d bc bs (pc + 1) L (.int x :: S) h Q) : G K M d bc bs pc L S h Q :=
  g_s (fun _ h1 => sc_co (by trivial) h1) (fun p l e R s m args below meth c H locs cells slots Qw ls ρ hx hb hl w => lv_iload_n hx hb hd hj (a_lv_at hl hi (fun _ q => by cases q)) w) k
theorem a_sl_at {z i : Nat} {v : Value} {L : List Value} (h : ∀ w ∈ L, a_sl z w) (hi : L[i]? = some v) : a_sl z v := h v (List.mem_of_getElem? hi)
theorem g_aload {i : Nat} {a : Nat} (hd : decode M.2.1 pc = .ok (.aload i, 2)) (hi : L[i]? = some (.ref a)) (k : G K M d bc bs (pc + 2) L (.ref a :: S) h Q) : G K M d bc bs pc L S h Q := by
  intro p e s m args below meth c ρ0 z0 mc ms C ρ H locs cells slots ls h1 h2 h3 h4 h5 h6 h7 h8 h9
  exact lv_aload C.1 C.2.1 hd (a_lv_at h6 hi (fun _ q => by cases q)) (k p e s m args below meth c ρ0 z0 mc ms C ρ H locs cells slots ls h1 h2 h3 h4 (sc_co (a_sl_sc (a_sl_at h4 hi)) h5) h6 h7 h8 h9)
theorem g_aloadF {i : Nat} {f : UInt32} (hd : decode M.2.1 pc = .ok (.aload i, 2)) (hi : L[i]? = some (.float f)) (k : G K M d bc bs (pc + 2) L (.float f :: S) h Q) : G K M d bc bs pc L S h Q := by
  intro p e s m args below meth c ρ0 z0 mc ms C ρ H locs cells slots ls h1 h2 h3 h4 h5 h6 h7 h8 h9
  exact lv_aload C.1 C.2.1 hd (a_lv_at h6 hi (fun _ q => by cases q)) (k p e s m args below meth c ρ0 z0 mc ms C ρ H locs cells slots ls h1 h2 h3 h4 (sc_co (a_sl_sc (a_sl_at h4 hi)) h5) h6 h7 h8 h9)
theorem g_aloadN {i : Nat} (hd : decode M.2.1 pc = .ok (.aload i, 2)) (hi : L[i]? = some (.null)) (k : G K M d bc bs (pc + 2) L (.null :: S) h Q) : G K M d bc bs pc L S h Q := by
  intro p e s m args below meth c ρ0 z0 mc ms C ρ H locs cells slots ls h1 h2 h3 h4 h5 h6 h7 h8 h9
  exact lv_aloadN C.1 C.2.1 hd (a_lv_at h6 hi (fun _ q => by cases q)) (k p e s m args below meth c ρ0 z0 mc ms C ρ H locs cells slots ls h1 h2 h3 h4 (sc_co (a_sl_sc (a_sl_at h4 hi)) h5) h6 h7 h8 h9)
theorem g_aload_n {i : Nat} {a : Nat} {j : Fin 4} (hd : decode M.2.1 pc = .ok (.aload_n j, 1)) (hj : (j : Nat) = i) (hi : L[i]? = some (.ref a)) (k : G K M d bc bs (pc + 1) L (.ref a :: S) h Q) : G K M d bc bs pc L S h Q := by
  intro p e s m args below meth c ρ0 z0 mc ms C ρ H locs cells slots ls h1 h2 h3 h4 h5 h6 h7 h8 h9
  exact lv_aload_n C.1 C.2.1 hd hj (a_lv_at h6 hi (fun _ q => by cases q)) (k p e s m args below meth c ρ0 z0 mc ms C ρ H locs cells slots ls h1 h2 h3 h4 (sc_co (a_sl_sc (a_sl_at h4 hi)) h5) h6 h7 h8 h9)
theorem g_aload_nF {i : Nat} {f : UInt32} {j : Fin 4} (hd : decode M.2.1 pc = .ok (.aload_n j, 1)) (hj : (j : Nat) = i) (hi : L[i]? = some (.float f)) (k : G K M d bc bs (pc + 1) L (.float f :: S) h Q) : G K M d bc bs pc L S h Q := by
  intro p e s m args below meth c ρ0 z0 mc ms C ρ H locs cells slots ls h1 h2 h3 h4 h5 h6 h7 h8 h9
  exact lv_aload_n C.1 C.2.1 hd hj (a_lv_at h6 hi (fun _ q => by cases q)) (k p e s m args below meth c ρ0 z0 mc ms C ρ H locs cells slots ls h1 h2 h3 h4 (sc_co (a_sl_sc (a_sl_at h4 hi)) h5) h6 h7 h8 h9)
theorem g_aload_nN {i : Nat} {j : Fin 4} (hd : decode M.2.1 pc = .ok (.aload_n j, 1)) (hj : (j : Nat) = i) (hi : L[i]? = some (.null)) (k : G K M d bc bs (pc + 1) L (.null :: S) h Q) : G K M d bc bs pc L S h Q := by
  intro p e s m args below meth c ρ0 z0 mc ms C ρ H locs cells slots ls h1 h2 h3 h4 h5 h6 h7 h8 h9
  exact lv_aload_nN C.1 C.2.1 hd hj (a_lv_at h6 hi (fun _ q => by cases q)) (k p e s m args below meth c ρ0 z0 mc ms C ρ H locs cells slots ls h1 h2 h3 h4 (sc_co (a_sl_sc (a_sl_at h4 hi)) h5) h6 h7 h8 h9)
theorem g_istore {i : Nat} {x : Int32} (hd : decode M.2.1 pc = .ok (.istore i, 2)) (hn : i < M.2.2.1) (k : G K M d bc bs (pc + 2) (L.set i (.int x)) S h Q) : G K M d bc bs pc L (.int x :: S) h Q :=
  g_l (fun _ h1 => ⟨sc_tl h1, fun _ => (by trivial)⟩) (fun p l e R s m args below meth c H locs cells slots Qw ls ρ hx hb hl w => lv_istore hx hb hd hl hn rfl w) hn k
theorem g_istore_n {i : Nat} {x : Int32} {j : Fin 4} (hd : decode M.2.1 pc = .ok (.istore_n j, 1)) (hj : (j : Nat) = i) (hn : i < M.2.2.1) (k : G K M d bc bs (pc + 1) (L.set i (.int x)) S h Q) : G K M d bc bs pc L (.int x :: S) h Q :=
  g_l (fun _ h1 => ⟨sc_tl h1, fun _ => (by trivial)⟩) (fun p l e R s m args below meth c H locs cells slots Qw ls ρ hx hb hl w => lv_istore_n hx hb hd hj hl hn rfl w) hn k
theorem g_astore {i a : Nat} (hd : decode M.2.1 pc = .ok (.astore i, 2)) (hn : i < M.2.2.1) (k : G K M d bc bs (pc + 2) (L.set i (.ref a)) S h Q) : G K M d bc bs pc L (.ref a :: S) h Q :=
  g_l (fun _ h1 => ⟨sc_tl h1, fun _ => (show a_sl _ (.ref a) from h1 _ List.mem_cons_self)⟩) (fun p l e R s m args below meth c H locs cells slots Qw ls ρ hx hb hl w => lv_astore hx hb hd hl hn rfl w) hn k
theorem g_astore_n {i a : Nat} {j : Fin 4} (hd : decode M.2.1 pc = .ok (.astore_n j, 1)) (hj : (j : Nat) = i) (hn : i < M.2.2.1) (k : G K M d bc bs (pc + 1) (L.set i (.ref a)) S h Q) : G K M d bc bs pc L (.ref a :: S) h Q :=
  g_l (fun _ h1 => ⟨sc_tl h1, fun _ => (show a_sl _ (.ref a) from h1 _ List.mem_cons_self)⟩) (fun p l e R s m args below meth c H locs cells slots Qw ls ρ hx hb hl w => lv_astore_n hx hb hd hj hl hn rfl w) hn k
theorem g_iinc {i : Nat} {n : Int} {x v : Int32} (hd : decode M.2.1 pc = .ok (.iinc i n, 3)) (hi : L[i]? = some (.int x)) (hv : x + Int32.ofInt n = v) (hn : i < M.2.2.1) (k : G K M d bc bs (pc + 3) (L.set i (.int v)) S h Q) : G K M d bc bs pc L S h Q :=
  g_l (fun _ h1 => ⟨h1, fun _ => (by trivial)⟩) (fun p l e R s m args below meth c H locs cells slots Qw ls ρ hx hb hl w => by
    obtain ⟨k9, hk9⟩ := List.getElem?_of_mem (a_pl_in (K := K) (ρ := ρ) L 0 i _ hi (fun _ q => by cases q))
    rw [Nat.zero_add] at hk9
    exact lv_iinc hx hb hd hl hk9 hv hn rfl w) hn k
theorem g_if_eq {x : Int32} {off : Int} {tgt : Nat} (hd : decode M.2.1 pc = .ok (.ifCond .eq off, 3)) (ht : (pc : Int) + off = (tgt : Int)) (kt : x = 0 → G K M d bc bs tgt L S h Q) (kf : ¬ x = 0 → G K M d bc bs (pc + 3) L S h Q) : G K M d bc bs pc L (.int x :: S) h Q :=
  g_b (fun _ h1 => sc_tl h1) (fun p l e R s m args below meth c H locs cells slots Qw ls ρ hx hb w1 w2 => lv_if_eq hx hb hd ht w1 w2) kt kf
theorem g_icmp_eq {x y : Int32} {off : Int} {tgt : Nat} (hd : decode M.2.1 pc = .ok (.if_icmp .eq off, 3)) (ht : (pc : Int) + off = (tgt : Int)) (kt : x = y → G K M d bc bs tgt L S h Q) (kf : ¬ x = y → G K M d bc bs (pc + 3) L S h Q) : G K M d bc bs pc L (.int y :: .int x :: S) h Q :=
  g_b (fun _ h1 => sc_tl (sc_tl h1)) (fun p l e R s m args below meth c H locs cells slots Qw ls ρ hx hb w1 w2 => lv_icmp_eq hx hb hd ht w1 w2) kt kf
theorem g_if_ne {x : Int32} {off : Int} {tgt : Nat} (hd : decode M.2.1 pc = .ok (.ifCond .ne off, 3)) (ht : (pc : Int) + off = (tgt : Int)) (kt : x = 0 → G K M d bc bs (pc + 3) L S h Q) (kf : ¬ x = 0 → G K M d bc bs tgt L S h Q) : G K M d bc bs pc L (.int x :: S) h Q :=
  g_b (fun _ h1 => sc_tl h1) (fun p l e R s m args below meth c H locs cells slots Qw ls ρ hx hb w1 w2 => lv_if_ne hx hb hd ht w2 w1) kt kf
theorem g_icmp_ne {x y : Int32} {off : Int} {tgt : Nat} (hd : decode M.2.1 pc = .ok (.if_icmp .ne off, 3)) (ht : (pc : Int) + off = (tgt : Int)) (kt : x = y → G K M d bc bs (pc + 3) L S h Q) (kf : ¬ x = y → G K M d bc bs tgt L S h Q) : G K M d bc bs pc L (.int y :: .int x :: S) h Q :=
  g_b (fun _ h1 => sc_tl (sc_tl h1)) (fun p l e R s m args below meth c H locs cells slots Qw ls ρ hx hb w1 w2 => lv_icmp_ne hx hb hd ht w2 w1) kt kf
theorem g_if_lt {x : Int32} {off : Int} {tgt : Nat} (hd : decode M.2.1 pc = .ok (.ifCond .lt off, 3)) (ht : (pc : Int) + off = (tgt : Int)) (kt : x < 0 → G K M d bc bs tgt L S h Q) (kf : ¬ x < 0 → G K M d bc bs (pc + 3) L S h Q) : G K M d bc bs pc L (.int x :: S) h Q :=
  g_b (fun _ h1 => sc_tl h1) (fun p l e R s m args below meth c H locs cells slots Qw ls ρ hx hb w1 w2 => lv_if_lt hx hb hd ht w1 w2) kt kf
theorem g_icmp_lt {x y : Int32} {off : Int} {tgt : Nat} (hd : decode M.2.1 pc = .ok (.if_icmp .lt off, 3)) (ht : (pc : Int) + off = (tgt : Int)) (kt : x < y → G K M d bc bs tgt L S h Q) (kf : ¬ x < y → G K M d bc bs (pc + 3) L S h Q) : G K M d bc bs pc L (.int y :: .int x :: S) h Q :=
  g_b (fun _ h1 => sc_tl (sc_tl h1)) (fun p l e R s m args below meth c H locs cells slots Qw ls ρ hx hb w1 w2 => lv_icmp_lt hx hb hd ht w1 w2) kt kf
theorem g_if_ge {x : Int32} {off : Int} {tgt : Nat} (hd : decode M.2.1 pc = .ok (.ifCond .ge off, 3)) (ht : (pc : Int) + off = (tgt : Int)) (kt : 0 ≤ x → G K M d bc bs tgt L S h Q) (kf : ¬ 0 ≤ x → G K M d bc bs (pc + 3) L S h Q) : G K M d bc bs pc L (.int x :: S) h Q :=
  g_b (fun _ h1 => sc_tl h1) (fun p l e R s m args below meth c H locs cells slots Qw ls ρ hx hb w1 w2 => lv_if_ge hx hb hd ht w1 w2) kt kf
theorem g_icmp_ge {x y : Int32} {off : Int} {tgt : Nat} (hd : decode M.2.1 pc = .ok (.if_icmp .ge off, 3)) (ht : (pc : Int) + off = (tgt : Int)) (kt : y ≤ x → G K M d bc bs tgt L S h Q) (kf : ¬ y ≤ x → G K M d bc bs (pc + 3) L S h Q) : G K M d bc bs pc L (.int y :: .int x :: S) h Q :=
  g_b (fun _ h1 => sc_tl (sc_tl h1)) (fun p l e R s m args below meth c H locs cells slots Qw ls ρ hx hb w1 w2 => lv_icmp_ge hx hb hd ht w1 w2) kt kf
theorem g_if_gt {x : Int32} {off : Int} {tgt : Nat} (hd : decode M.2.1 pc = .ok (.ifCond .gt off, 3)) (ht : (pc : Int) + off = (tgt : Int)) (kt : 0 < x → G K M d bc bs tgt L S h Q) (kf : ¬ 0 < x → G K M d bc bs (pc + 3) L S h Q) : G K M d bc bs pc L (.int x :: S) h Q :=
  g_b (fun _ h1 => sc_tl h1) (fun p l e R s m args below meth c H locs cells slots Qw ls ρ hx hb w1 w2 => lv_if_gt hx hb hd ht w1 w2) kt kf
theorem g_icmp_gt {x y : Int32} {off : Int} {tgt : Nat} (hd : decode M.2.1 pc = .ok (.if_icmp .gt off, 3)) (ht : (pc : Int) + off = (tgt : Int)) (kt : y < x → G K M d bc bs tgt L S h Q) (kf : ¬ y < x → G K M d bc bs (pc + 3) L S h Q) : G K M d bc bs pc L (.int y :: .int x :: S) h Q :=
  g_b (fun _ h1 => sc_tl (sc_tl h1)) (fun p l e R s m args below meth c H locs cells slots Qw ls ρ hx hb w1 w2 => lv_icmp_gt hx hb hd ht w1 w2) kt kf
theorem g_if_le {x : Int32} {off : Int} {tgt : Nat} (hd : decode M.2.1 pc = .ok (.ifCond .le off, 3)) (ht : (pc : Int) + off = (tgt : Int)) (kt : x ≤ 0 → G K M d bc bs tgt L S h Q) (kf : ¬ x ≤ 0 → G K M d bc bs (pc + 3) L S h Q) : G K M d bc bs pc L (.int x :: S) h Q :=
  g_b (fun _ h1 => sc_tl h1) (fun p l e R s m args below meth c H locs cells slots Qw ls ρ hx hb w1 w2 => lv_if_le hx hb hd ht w1 w2) kt kf
theorem g_icmp_le {x y : Int32} {off : Int} {tgt : Nat} (hd : decode M.2.1 pc = .ok (.if_icmp .le off, 3)) (ht : (pc : Int) + off = (tgt : Int)) (kt : x ≤ y → G K M d bc bs tgt L S h Q) (kf : ¬ x ≤ y → G K M d bc bs (pc + 3) L S h Q) : G K M d bc bs pc L (.int y :: .int x :: S) h Q :=
  g_b (fun _ h1 => sc_tl (sc_tl h1)) (fun p l e R s m args below meth c H locs cells slots Qw ls ρ hx hb w1 w2 => lv_icmp_le hx hb hd ht w1 w2) kt kf
theorem g_nonnull {a : Nat} {off : Int} {tgt : Nat} (hd : decode M.2.1 pc = .ok (.ifnonnull off, 3)) (ht : (pc : Int) + off = (tgt : Int)) (k : G K M d bc bs tgt L S h Q) : G K M d bc bs pc L (.ref a :: S) h Q :=
  g_s (fun _ h1 => sc_tl h1) (fun p l e R s m args below meth c H locs cells slots Qw ls ρ hx hb hl w => lv_ifnonnull hx hb hd ht w) k
theorem g_nonnullN {off : Int} (hd : decode M.2.1 pc = .ok (.ifnonnull off, 3)) (k : G K M d bc bs (pc + 3) L S h Q) : G K M d bc bs pc L (.null :: S) h Q :=
  g_s (fun _ h1 => sc_tl h1) (fun p l e R s m args below meth c H locs cells slots Qw ls ρ hx hb hl w => lv_ifnonnullN hx hb hd w) k
theorem g_tabIn {dflt lo hi : Int} {offs : Array Int} {len : Nat} {x : Int32} {off : Int} {tgt : Nat} (hd : decode M.2.1 pc = .ok (.tableswitch dflt lo hi offs, len)) (h1 : ¬ x.toInt < lo) (h2 : ¬ hi < x.toInt) (ho : offs[(x.toInt - lo).toNat]? = some off) (ht : (pc : Int) + off = (tgt : Int)) (k : G K M d bc bs tgt L S h Q) : G K M d bc bs pc L (.int x :: S) h Q :=
  g_s (fun _ h1 => sc_tl h1) (fun p l e R s m args below meth c H locs cells slots Qw ls ρ hx hb hl w => lv_tableIn hx hb hd h1 h2 ho ht w) k
theorem g_tabOut {dflt lo hi : Int} {offs : Array Int} {len : Nat} {x : Int32} {tgt : Nat} (hd : decode M.2.1 pc = .ok (.tableswitch dflt lo hi offs, len)) (h1 : x.toInt < lo ∨ hi < x.toInt) (ht : (pc : Int) + dflt = (tgt : Int)) (k : G K M d bc bs tgt L S h Q) : G K M d bc bs pc L (.int x :: S) h Q :=
  g_s (fun _ h1 => sc_tl h1) (fun p l e R s m args below meth c H locs cells slots Qw ls ρ hx hb hl w => lv_tableOut hx hb hd h1 ht w) k
theorem g_ldc {index : Nat} {v : Int32} (hd : decode M.2.1 pc = .ok (.ldc index, 2)) (hw : Cond.constant M.1 index v ∈ a_w0) (k : G K M d bc bs (pc + 2) L (.int v :: S) h Q) : G K M d bc bs pc L S h Q := by
  intro p e s m args below meth c ρ0 z0 mc ms C ρ H locs cells slots ls h1 h2 h3 h4 h5 h6 h7 h8 h9
  exact lv_ldc C.1 C.2.1 C.2.2.2.1 (C.2.2.2.2.2.1 _ hw) hd (k p e s m args below meth c ρ0 z0 mc ms C ρ H locs cells slots ls h1 h2 h3 h4 (sc_co (by trivial) h5) h6 h7 h8 h9)
/-- the answer: an int -/
theorem g_iret {v : Int32} (hd : decode M.2.1 pc = .ok (.ireturn, 1)) (hr : M.2.2.2.1 = some .int) (q : Q (.inl (some (.int v))) h) : G K M d bc bs pc L [.int v] h Q := by
  intro p e s m args below meth c ρ0 z0 mc ms C ρ H locs cells slots ls h1 h2 h3 h4 h5 h6 h7 h8 h9
  refine vx_ret (W.widen (k := mc) (n := ms) (by omega) (by omega) ?_)
  exact W.iret (v := v) C.1 C.2.1 (C.2.2.2.2.1.trans hr) (fun t ht _ => ⟨some (.int v), ρ, h, rfl, by rw [ht]; exact h1, h2, h3, fun x hx => by cases hx; trivial, h7.F ht, q⟩) h7.2.2 hd C.2.2.2.2.2.2.1
theorem g_zret {v : Int32} (hd : decode M.2.1 pc = .ok (.ireturn, 1)) (hr : M.2.2.2.1 = some .boolean) (hv : v = 0 ∨ v = 1) (q : Q (.inl (some (.int v))) h) : G K M d bc bs pc L [.int v] h Q := by
  intro p e s m args below meth c ρ0 z0 mc ms C ρ H locs cells slots ls h1 h2 h3 h4 h5 h6 h7 h8 h9
  refine vx_ret (W.widen (k := mc) (n := ms) (by omega) (by omega) ?_)
  exact W.zret (v := v) C.1 C.2.1 (C.2.2.2.2.1.trans hr) (by rcases hv with rfl | rfl <;> rfl) (fun t ht _ => ⟨some (.int v), ρ, h, rfl, by rw [ht]; exact h1, h2, h3, fun x hx => by cases hx; trivial, h7.F ht, q⟩) h7.2.2 hd C.2.2.2.2.2.2.1
theorem g_vret (hd : decode M.2.1 pc = .ok (.return_, 1)) (hr : M.2.2.2.1 = none) (q : Q (.inl none) h) : G K M d bc bs pc L [] h Q := by
  intro p e s m args below meth c ρ0 z0 mc ms C ρ H locs cells slots ls h1 h2 h3 h4 h5 h6 h7 h8 h9
  refine vx_ret (W.widen (k := mc) (n := ms) (by omega) (by omega) ?_)
  exact W.vret C.1 C.2.1 (C.2.2.2.2.1.trans hr) (fun t ht _ => ⟨none, ρ, h, rfl, by rw [ht]; exact h1, h2, h3, (fun x hx => by cases hx), h7.F ht, q⟩) h7.2.2 hd C.2.2.2.2.2.2.1
theorem g_aret {a : Nat} {nm : String} (hd : decode M.2.1 pc = .ok (.areturn, 1)) (hr : M.2.2.2.1 = some (.object nm)) (q : Q (.inl (some (.ref a))) h) : G K M d bc bs pc L [.ref a] h Q := by
  intro p e s m args below meth c ρ0 z0 mc ms C ρ H locs cells slots ls h1 h2 h3 h4 h5 h6 h7 h8 h9
  refine vx_ret (W.widen (k := mc) (n := ms) (by omega) (by omega) ?_)
  exact W.aret (v := .ref (ρ a)) C.1 C.2.1 (C.2.2.2.2.1.trans hr) (Or.inl ⟨_, rfl⟩) (Or.inr ⟨_, rfl⟩) (fun t ht _ => ⟨some (.ref a), ρ, h, rfl, by rw [ht]; exact h1, h2, h3, fun x hx => by cases hx; exact h5 _ List.mem_cons_self, h7.F ht, q⟩) h7.2.2 hd C.2.2.2.2.2.2.1
end
