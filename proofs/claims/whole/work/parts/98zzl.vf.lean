/-! THE START: what a walk has at hand there -/
theorem arrOver {ty : FieldType} {args : Array Value} {s : State} (h : (Cond.arrayOver (.array ty)).before args s = true) : ∃ comp c k, s.vm.classes[c]? = some k ∧ k.kind = .array comp (.array ty) ∧ s.vm.findClass ("[" ++ (FieldType.array ty).toString) = some c := by
  simp only [Cond.before, Cond.holds, Cond.value, beq_iff_eq] at h
  cases hc : s.vm.findClass (FieldType.array ty).toString with
  | none => simp [hc] at h
  | some comp =>
    simp only [hc, Option.bind_some, Option.bind_eq_some_iff, Option.map_eq_some_iff] at h
    obtain ⟨c, hi, k, hk, hb⟩ := h
    obtain ⟨hlt, hp, -⟩ := Array.findIdx?_eq_some_iff_getElem.mp hi
    have hkk : s.vm.classes[c] = k := (Array.getElem?_eq_some_iff.mp hk).2
    rw [hkk] at hp
    cases hkind : k.kind with
    | array component t2 =>
      rw [hkind] at hb hp
      simp at hb hp
      exact ⟨comp, c, k, hk, by rw [hkind, hp, hb.1], hb.2⟩
    | _ => rw [hkind] at hb; simp at hb
theorem arrOverO {C : String} {args : Array Value} {s : State} (h : (Cond.arrayOver (.object C)).before args s = true) : ∃ cA, ArrOfT s cA (.object C) ∧ va_RA s cA (.object C) := by
  obtain ⟨comp, c, k, h1, -, h2, h3, h4⟩ := Cond.arrayOver_spec h
  exact ⟨c, fun n z => ⟨fun k h => (by cases h), k, h2, comp, h3⟩, k, comp, h2, h3, h1, h4⟩
theorem arrOverA {ty : FieldType} {args : Array Value} {s : State} (h : (Cond.arrayOver (.array ty)).before args s = true) : ∃ cA, ArrOfT s cA (.array ty) ∧ va_RA s cA (.array ty) := by
  obtain ⟨comp, c, k, h2, h3, h4⟩ := arrOver h
  exact ⟨c, fun n z => ⟨fun k h => (by cases h), k, h2, comp, h3⟩, h4⟩
theorem arrCls {ty : FieldType} {args : Array Value} {s : State} (h : (Cond.arrayClass ty).before args s = true) : ∃ cA, ArrOfT s cA ty ∧ s.vm.findClass ("[" ++ ty.toString) = some cA := by
  obtain ⟨c, k, comp, h1, h2, h3⟩ := Cond.arrayClass_spec h
  exact ⟨c, fun n z => ⟨fun k h => (by cases h), k, h2, comp, h3⟩, h1⟩
theorem lw_arr {s : State} {args : Array Value} (hts : ∀ w ∈ lw_tbl, w.before args s = true) : ∃ f : Nat → ClassId, ∀ t, t < 7 → ArrOfT s (f t) (a_aty t) ∧ va_RA s (f t) (a_aty t) := by
  have hw : ∀ w ∈ a_w0, w.before args s = true := fun w h => hts w (List.mem_filter.mp h).1
  have h : ∀ t : Nat, ∃ cA : ClassId, t < 7 → ArrOfT s cA (a_aty t) ∧ va_RA s cA (a_aty t) := fun t => by
    match t with
    | 0 => obtain ⟨c, h1, h2⟩ := arrCls (hw _ ac_int); exact ⟨c, fun _ => ⟨h1, h2⟩⟩
    | 1 => obtain ⟨c, h1, h2⟩ := arrCls (hw _ ac_boolean); exact ⟨c, fun _ => ⟨h1, h2⟩⟩
    | 2 => obtain ⟨c, h1, h2⟩ := arrCls (hw _ ac_long); exact ⟨c, fun _ => ⟨h1, h2⟩⟩
    | 3 => obtain ⟨c, h⟩ := arrOverA (hts _ tw_ai); exact ⟨c, fun _ => h⟩
    | 4 => obtain ⟨c, h⟩ := arrOverA (hts _ tw_ab); exact ⟨c, fun _ => h⟩
    | 5 => obtain ⟨c, h⟩ := arrOverA (hts _ tw_aa); exact ⟨c, fun _ => h⟩
    | 6 => obtain ⟨c, h⟩ := arrOverO (hts _ tw_ar); exact ⟨c, fun _ => h⟩
    | t + 7 => exact ⟨0, fun h => absurd h (by omega)⟩
  exact Classical.axiomOfChoice h
theorem lw_cls {s : State} {args : Array Value} (hts : ∀ w ∈ lw_tbl, w.before args s = true) : ∃ f : Nat → ClassId × (Nat → Nat), ∀ (c : Nat) (q : vw_C), a_cl[c]? = some q → u_Kn s q.1 q.2.1 q.2.2 (f c).1 (f c).2 := by
  have hw : ∀ w ∈ a_w0, w.before args s = true := fun w h => hts w (List.mem_filter.mp h).1
  have h : ∀ c : Nat, ∃ e : ClassId × (Nat → Nat), ∀ q : vw_C, a_cl[c]? = some q → u_Kn s q.1 q.2.1 q.2.2 e.1 e.2 := fun c => by
    match c with
    | 0 => obtain ⟨x, y, h⟩ := u_known hw uw_Ask (hw _ w_186); exact ⟨(x, y), fun q hq => by cases hq; exact h⟩
    | 1 => obtain ⟨x, y, h⟩ := u_known hw uw_Box (hw _ w_116); exact ⟨(x, y), fun q hq => by cases hq; exact h⟩
    | 2 => obtain ⟨x, y, h⟩ := u_known hw uw_Len (hw _ w_34); exact ⟨(x, y), fun q hq => by cases hq; exact h⟩
    | 3 => obtain ⟨x, y, h⟩ := u_known hw uw_Lik (hw _ w_331); exact ⟨(x, y), fun q hq => by cases hq; exact h⟩
    | 4 => obtain ⟨x, y, h⟩ := u_known hw uw_Pla (hw _ w_150); exact ⟨(x, y), fun q hq => by cases hq; exact h⟩
    | 5 => obtain ⟨x, y, h⟩ := u_known hw uw_Rea (hw _ w_82); exact ⟨(x, y), fun q hq => by cases hq; exact h⟩
    | 6 => obtain ⟨x, y, h⟩ := u_known hw uw_Row (hw _ w_203); exact ⟨(x, y), fun q hq => by cases hq; exact h⟩
    | 7 => obtain ⟨x, y, h⟩ := u_known hw uw_Tab (hw _ w_196); exact ⟨(x, y), fun q hq => by cases hq; exact h⟩
    | 8 => obtain ⟨x, y, h⟩ := u_known hw uw_Way (hw _ w_1039); exact ⟨(x, y), fun q hq => by cases hq; exact h⟩
    | 9 => obtain ⟨x, y, h⟩ := u_known hw uw_Led (hw _ w_26); exact ⟨(x, y), fun q hq => by cases hq; exact h⟩
    | 10 => obtain ⟨x, y, h⟩ := u_known hw uw_Mod (hw _ w_1424); exact ⟨(x, y), fun q hq => by cases hq; exact h⟩
    | c + 11 => exact ⟨(0, fun _ => 0), fun q hq => absurd hq (by simp [a_cl])⟩
  exact Classical.axiomOfChoice h
theorem lw_nw {s : State} {args : Array Value} (hts : ∀ w ∈ lw_tbl, w.before args s = true) : ∀ w ∈ a_N, va_Nw w s := fun w hw => by
  obtain ⟨h1, h2⟩ := List.mem_filter.mp hw
  have h := hts w h1
  cases w <;> first | exact absurd (show (false = true) from h2) (by decide) | exact va_tabs rfl rfl h
theorem lw_strs {s : State} {args : Array Value} (hts : ∀ w ∈ lw_tbl, w.before args s = true) {ad : Nat → Nat} (ev : ∀ i : Nat, i < 19 → (st_tm i).eval args s none [] s = some (.ref (ad i))) : ∀ (k : Nat) (q : String × Nat × String), a_S[k]? = some q → vk_R q.1 q.2.1 q.2.2 (ad k) s := fun k q hq => by
  match k, hq with
  | 0, hq => cases hq; exact vk_R.of (hts _ tw_s0) (ev 0 (by decide))
  | 1, hq => cases hq; exact vk_R.of (hts _ tw_s1) (ev 1 (by decide))
  | 2, hq => cases hq; exact vk_R.of (hts _ tw_s2) (ev 2 (by decide))
  | 3, hq => cases hq; exact vk_R.of (hts _ tw_s3) (ev 3 (by decide))
  | 4, hq => cases hq; exact vk_R.of (hts _ tw_s4) (ev 4 (by decide))
  | 5, hq => cases hq; exact vk_R.of (hts _ tw_s5) (ev 5 (by decide))
  | 6, hq => cases hq; exact vk_R.of (hts _ tw_s6) (ev 6 (by decide))
  | 7, hq => cases hq; exact vk_R.of (hts _ tw_s7) (ev 7 (by decide))
  | 8, hq => cases hq; exact vk_R.of (hts _ tw_s8) (ev 8 (by decide))
  | 9, hq => cases hq; exact vk_R.of (hts _ tw_s9) (ev 9 (by decide))
  | 10, hq => cases hq; exact vk_R.of (hts _ tw_s10) (ev 10 (by decide))
  | 11, hq => cases hq; exact vk_R.of (hts _ tw_s11) (ev 11 (by decide))
  | 12, hq => cases hq; exact vk_R.of (hts _ tw_s12) (ev 12 (by decide))
  | 13, hq => cases hq; exact vk_R.of (hts _ tw_s13) (ev 13 (by decide))
  | 14, hq => cases hq; exact vk_R.of (hts _ tw_s14) (ev 14 (by decide))
  | 15, hq => cases hq; exact vk_R.of (hts _ tw_s15) (ev 15 (by decide))
  | 16, hq => cases hq; exact vk_R.of (hts _ tw_s16) (ev 16 (by decide))
  | 17, hq => cases hq; exact vk_R.of (hts _ tw_s17) (ev 17 (by decide))
  | 18, hq => cases hq; exact vk_R.of (hts _ tw_s18) (ev 18 (by decide))
  | k + 19, hq => exact absurd hq (by simp [a_S])
theorem lw_VF (l : Launch) (hl : l.flags = flags0) {s : State} {b : Nat} (L : Nat) (xs : Nat → Int32) (hts : ∀ w ∈ lw_tbl, w.before #[Value.ref b] s = true) (hn : narrow_1.before #[Value.ref b] s = true) : ∃ K : aK, K.2.2.1 = s.heap.size ∧ K.2.2.2.1 0 = b ∧ K.2.2.2.2.1 = L ∧ K.2.2.2.2.2.1 = xs ∧ K.2.2.2.2.2.2 = l ∧ a_VF K s s.heap := by
  have hA : ∀ a : Nat, a < s.heap.size → ¬ (fun q : Nat => s.heap.size ≤ q) a := fun a h => Nat.not_le.mpr h
  obtain ⟨fa, ha⟩ := lw_arr hts
  obtain ⟨fc, hc⟩ := lw_cls hts
  obtain ⟨adK, adV, hS, ev⟩ := vk_Sof (N := 19) (tm := st_tm) (len := a_len) (byt := a_byt) (by decide) (nxs_all hn) (nc_all hn) (na_all hn) (nn_all hn) (ne_all hn) (fun i j hi hj hij => (Nat.lt_or_gt_of_ne hij).elim (fun q => Or.inl (nd_all hn j hj i q)) (fun q => Or.inr (nd_all hn i hi j q))) hA
  obtain ⟨tp, ep, hT⟩ := va_Tof (f := fun j => .int (a_pow j)) (N := 4) (by decide) (nw_pa hn) (va_eqt (nw_pl hn)) (fun j hj => va_eqt (nw_pe hn j hj)) hA
  obtain ⟨fm, hfm⟩ : ∃ fm : Nat, (va_Z "jdk/internal/util/Preconditions" "SIOOBE_FORMATTER" "Ljava/util/function/BiFunction;" .null (fun q => s.heap.size ≤ q) s s.heap ∨ va_Z "jdk/internal/util/Preconditions" "SIOOBE_FORMATTER" "Ljava/util/function/BiFunction;" (.ref fm) (fun q => s.heap.size ≤ q) s s.heap) := by
    obtain ⟨v, e1, e2⟩ := Cond.isRef_spec (nw_fm hn)
    cases v with
    | null => exact ⟨0, Or.inl (va_Zof (hts _ tw_fm) (hts _ tw_if) e1 hA)⟩
    | ref a => exact ⟨a, Or.inr (va_Zof (hts _ tw_fm) (hts _ tw_if) e1 hA)⟩
    | _ => simp [Value.isRef] at e2
  let old : Nat → Nat := fun k => if k = 0 then b else if k = 200 then tp else if k = 300 then fm else if k < 101 then adK (k - 1) else adV (k - 101)
  have o1 : ∀ i, i < 19 → old (i + 1) = adK i := fun i hi => by
    show (if i + 1 = 0 then b else if i + 1 = 200 then tp else if i + 1 = 300 then fm else if i + 1 < 101 then adK (i + 1 - 1) else adV (i + 1 - 101)) = _
    rw [if_neg (by omega), if_neg (by omega), if_neg (by omega), if_pos (by omega), Nat.add_sub_cancel]
  have o2 : ∀ i, i < 19 → old (i + 101) = adV i := fun i hi => by
    show (if i + 101 = 0 then b else if i + 101 = 200 then tp else if i + 101 = 300 then fm else if i + 101 < 101 then adK (i + 101 - 1) else adV (i + 101 - 101)) = _
    rw [if_neg (by omega), if_neg (by omega), if_neg (by omega), if_neg (by omega), Nat.add_sub_cancel]
  refine ⟨((fun c => (fc c).1, fun c => (fc c).2), fa, s.heap.size, old, L, xs, l), rfl, rfl, rfl, rfl, rfl, ⟨hc, fun k q hq => ?_⟩, Nat.le_refl _, ?_, fun k q hq => ?_, vx_Zqof (hts _ tw_us) (hts _ tw_it) (nw_us hn) hA, vx_Zqof (hts _ tw_ss) (hts _ tw_it) (nw_ss hn) hA, lw_nw hts, hts _ tw_ar, hts _ tw_ai, hts _ tw_ab, hts _ tw_aa, va_Zof (hts _ tw_pw) (hts _ tw_ip) ep hA, hT, ?_, va_Zof (hts _ tw_cs) (hts _ tw_is) (va_eqi (nw_cs hn)) hA, hfm, nw_nc hn⟩
  · have hk : k < 7 := by
      obtain ⟨h, _⟩ := List.getElem?_eq_some_iff.mp hq
      simpa [a_tys] using h
    rw [a_tys_get hk] at hq
    cases hq
    exact ha k hk
  · show l.stackTraces = false
    unfold Launch.stackTraces
    rw [hl]
    decide +kernel
  · have hk : k < 19 := by
      obtain ⟨h, _⟩ := List.getElem?_eq_some_iff.mp hq
      exact h
    show vk_R q.1 q.2.1 q.2.2 (old (k + 1)) s
    rw [o1 k hk]
    exact lw_strs hts ev k q hq
  · refine ⟨fun i hi => ?_, fun i j hi hj e => ?_⟩
    · show va_O "java/lang/String" (old (i + 1)) _ s s.heap ∧ va_OF "java/lang/String" "coder" "B" (.int 0) (old (i + 1)) _ s s.heap ∧ va_OF "java/lang/String" "value" "[B" (.ref (old (i + 101))) (old (i + 1)) _ s s.heap ∧ va_T .byte (old (i + 101)) (a_len.getD i 0) _ _ s s.heap
      rw [o1 i hi, o2 i hi]
      exact hS.1 i hi
    · have e' : old (i + 1) = old (j + 1) := e
      rw [o1 i hi, o1 j hj] at e'
      exact hS.2 i j hi hj e'
theorem room_le {s : State} {pl : Platform} {r r' : Room} (h : s.hasRoom pl r = true) (h1 : r'.frames ≤ r.frames) (h2 : r'.cells ≤ r.cells) (h3 : r'.slots ≤ r.slots) (h4 : r'.locals ≤ r.locals) : s.hasRoom pl r' = true := by
  simp only [State.hasRoom, Bool.and_eq_true, decide_eq_true_eq] at h ⊢
  obtain ⟨⟨⟨⟨a, b1, b2, b3, b4, b5⟩, c⟩, d⟩, e⟩ := h
  exact ⟨⟨⟨⟨by omega, by omega, by omega, by omega, by omega, b5⟩, by omega⟩, by omega⟩, e⟩
theorem whole_start {p : Program} {e : Env} {s : State} {m : MethodId} {below : List Frame} {meth : Method} {c : Code} (l : Launch) (hl : l.flags = flags0) {b L : Nat} {xs : Nat → Int32} (hL : L ≤ 3584) (hnm : meth.name = "law") (htb : c.exceptionTable.toList = []) (C0 : lw_At p s m meth c b L xs) : W p l e room_1 s m #[Value.ref b] below meth c s.heap [] 0 0 (lw_Z below #[Value.ref b] s) (entryFrame m ([Value.ref b] : List Value).toArray 7) := by
  obtain ⟨hx, hb, hr, hml, hown, hts, hX, hbl, hlocks, hgv⟩ := C0
  have hn : narrow_1.before #[Value.ref b] s = true := nw_r hgv
  obtain ⟨K, k1, k2, k3, k4, k5, hVF⟩ := lw_VF l hl L xs hts hn
  have C : a_cx K M_Law_law p s m #[Value.ref b] meth c := ⟨hx, hb, hml, hown, hr, fun w hw => hts w (List.mem_filter.mp hw).1, hlocks, hnm, htb, hVF, fun _ => ⟨by rw [k2, k3, k4]; exact hX, by rw [k2]; exact hbl, by rw [k2, k1]; exact hbl⟩⟩
  have hG := lw_G (K := K) (d := 1310) (Q := fun o _ => o = .inl (some (.int 1))) (by omega) (by rw [k3]; exact hL) (fun _ => rfl)
  have hl0 := lv_entry ([.ref b]) (n := 7) (Nat.le_of_ble_eq_true rfl)
  rw [lg_entry_eq]
  generalize (lg_sl ([.ref b]) ++ List.replicate (7 - (lg_sl ([.ref b])).length) Slot.unset).toArray = ls at hl0 ⊢
  have hl1 : lv_has ls 7 (a_pl K (fun _ => 0) 0 [.float 0, .double 0, .double 0, .double 0, .double 0, .double 0, .double 0]) := by
    show lv_has ls 7 [(0, Value.ref (K.2.2.2.1 0))]
    rw [k2]
    exact hl0
  have hR : a_R K (fun _ => 0) (g_z0, m_z0) s.heap := ⟨fun k q h => (by simp [a_ws, g_z0] at h), ⟨fun i j p q h => (by simp [a_ws, g_z0] at h), fun k q h => (by simp [a_ws, g_z0] at h)⟩, fun a k b h => (by cases h)⟩
  have w := hG p e s m #[Value.ref b] below meth c (fun _ => 0) 0 601024 7293034 C (fun _ => 0) s.heap [] 0 0 ls hR (fun a ha => absurd ha (by omega)) (Nat.zero_le _) (fun v hv => by
    simp only [List.mem_cons, List.not_mem_nil, or_false] at hv
    rcases hv with rfl | rfl | rfl | rfl | rfl | rfl | rfl <;> trivial) (fun v hv => nomatch hv) hl1 va_S.rf (by omega) (by omega)
  rw [k5] at w
  intro T hT X
  obtain ⟨t, st, o, r1, r2, r3⟩ := w T hT { X with room := room_le X.room (by decide) (by decide) (by decide) (by decide) }
  refine ⟨t, st, o, r1, r2, ?_⟩
  rcases r3 with ⟨⟨v, ρ', h', q1, q2, q3, q4, q5, q6, q7⟩, Lc, fe, hfree⟩ | ⟨q, rfl, E, ce, L', ⟨ρ', h', q2, q3, q4, q6, q7⟩, r5⟩
  · have q7' : (Sum.inl v : Option Value ⊕ String) = .inl (some (.int 1)) := q7
    cases q7'
    refine ⟨q1, fe.1, fe.2.1, fe.2.2.weaken (fun y hy hlt => absurd hlt (Nat.not_lt.mpr ?_)) (Nat.le_refl _) (Nat.le_refl _)⟩
    have := hfree y hy
    rw [k1] at this
    exact this
  · have q7' : (Sum.inr E : Option Value ⊕ String) = .inl (some (.int 1)) := q7
    cases q7'
