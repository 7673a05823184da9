/-! RULES 2: fields, arrays, new cells -/
/-- an int is put at a slot -/
def a_st (m : aM) (a i : Nat) (x : Int32) : aM := fun b j => if b = a ∧ j = i then x else m b j
theorem a_st_at (m : aM) (a i : Nat) (x : Int32) : a_st m a i x a = upd (m a) i x := by
  funext j
  simp [a_st, upd]
theorem a_st_ne {m : aM} {a i b : Nat} {x : Int32} (h : b ≠ a) : a_st m a i x b = m b := by
  funext j
  simp [a_st, h]
/-- a reference is put at a slot -/
def a_sr (r : Nat → Nat → Option Nat) (a i : Nat) (x : Option Nat) : Nat → Nat → Option Nat := fun b j => if b = a ∧ j = i then x else r b j
theorem a_sr_at (r : Nat → Nat → Option Nat) (a i : Nat) (x : Option Nat) : a_sr r a i x a = va_up (r a) i x := by
  funext j
  simp [a_sr, va_up]
theorem a_sr_ne {r : Nat → Nat → Option Nat} {a i b : Nat} {x : Option Nat} (h : b ≠ a) : a_sr r a i x b = r b := by
  funext j
  simp [a_sr, h]
def a_sj (r : Nat → Nat → Int64) (a i : Nat) (x : Int64) : Nat → Nat → Int64 := fun b j => if b = a ∧ j = i then x else r b j
theorem a_sj_at (r : Nat → Nat → Int64) (a i : Nat) (x : Int64) : a_sj r a i x a = vp_updL (r a) i x := by
  funext j
  simp [a_sj, vp_updL]
theorem a_sj_ne {r : Nat → Nat → Int64} {a i b : Nat} {x : Int64} (h : b ≠ a) : a_sj r a i x b = r b := by
  funext j
  simp [a_sj, h]
abbrev h_i (h : aH) (a i : Nat) (x : Int32) : aH := (h.1, a_st h.2 a i x)
abbrev h_r (h : aH) (a i : Nat) (x : Option Nat) : aH := ((h.1.1, h.1.2.1, a_sr h.1.2.2.1 a i x, h.1.2.2.2), h.2)
abbrev h_j (h : aH) (a i : Nat) (x : Int64) : aH := ((h.1.1, h.1.2.1, h.1.2.2.1, a_sj h.1.2.2.2 a i x), h.2)
/-- a new cell, all zero and null -/
def h_n (h : aH) (k : Nat × Nat) : aH := ((h.1.1 + 1, fun b => if b = h.1.1 then k else h.1.2.1 b, fun b j => if b = h.1.1 then none else h.1.2.2.1 b j, fun b j => if b = h.1.1 then 0 else h.1.2.2.2 b j), fun b j => if b = h.1.1 then 0 else h.2 b j)
theorem a_ce_i {K : aK} {ρ : Nat → Nat} {h : aH} {a n t : Nat} (hk : h.1.2.1 a = (t, n)) (ht : t < 2) : a_ce K ρ h a = .inl (K.2.1 t, n, .inl (h.2 a)) := by simp [a_ce, hk, ht]
theorem a_ce_l {K : aK} {ρ : Nat → Nat} {h : aH} {a n : Nat} (hk : h.1.2.1 a = (2, n)) : a_ce K ρ h a = .inl (K.2.1 2, n, .inr (.inl (h.1.2.2.2 a))) := by simp [a_ce, hk]
theorem a_ce_r {K : aK} {ρ : Nat → Nat} {h : aH} {a n t : Nat} (hk : h.1.2.1 a = (t, n)) (h1 : 2 < t) (h2 : t < 7) : a_ce K ρ h a = .inl (K.2.1 t, n, .inr (.inr (.inr (.inr (fun j => (h.1.2.2.1 a j).map ρ))))) := by
  simp [a_ce, hk, h2, show ¬ t < 2 by omega, show ¬ t = 2 by omega]
theorem a_ce_o {K : aK} {ρ : Nat → Nat} {h : aH} {a n ci : Nat} (hk : h.1.2.1 a = (10 + ci, n)) : a_ce K ρ h a = .inr (ci, (List.range n).map (a_fv ρ h ci a)) := by
  simp [a_ce, hk, show ¬ 10 + ci < 2 by omega, show ¬ 10 + ci = 2 by omega, show ¬ 10 + ci < 7 by omega, show 10 + ci - 10 = ci by omega]
theorem a_ce_eq {K : aK} {ρ : Nat → Nat} {h h' : aH} {b : Nat} (h1 : h'.1.2.1 b = h.1.2.1 b) (h2 : h'.2 b = h.2 b) (h3 : h'.1.2.2.1 b = h.1.2.2.1 b) (h4 : h'.1.2.2.2 b = h.1.2.2.2 b) : a_ce K ρ h' b = a_ce K ρ h b := by
  have e : ∀ ci, a_fv ρ h' ci b = a_fv ρ h ci b := fun ci => by funext k; simp [a_fv, h2, h3]
  simp only [a_ce, h1, h2, h3, h4, e]
theorem a_ws_new {K : aK} {ρ ρ' : Nat → Nat} {h : aH} {k : Nat × Nat} (hρ : ∀ a, a < h.1.1 → ρ' a = ρ a) (hr : ∀ a k b : Nat, h.1.2.2.1 a k = some b → b < h.1.1) : a_ws K ρ' (h_n h k) = a_ws K ρ h ++ [(ρ' h.1.1, a_ce K ρ' (h_n h k) h.1.1)] := by
  have e1 : ∀ a, a < h.1.1 → a_ce K ρ' (h_n h k) a = a_ce K ρ h a := by
    intro a ha
    have hne : ¬ a = h.1.1 := by omega
    have em : ∀ j, (h.1.2.2.1 a j).map ρ' = (h.1.2.2.1 a j).map ρ := fun j => by
      cases hj : h.1.2.2.1 a j with
      | none => rfl
      | some b => simp [hρ b (hr a j b hj)]
    have ef : ∀ ci, a_fv ρ' (h_n h k) ci a = a_fv ρ h ci a := fun ci => by
      funext j
      simp [a_fv, h_n, hne, em]
    simp only [a_ce, ef]
    simp only [h_n, hne, if_false, em]
  show (List.range (h.1.1 + 1)).map _ = _
  rw [List.range_succ, List.map_append]
  congr 1
  exact List.map_congr_left fun a ha => by rw [hρ a (List.mem_range.mp ha), e1 a (List.mem_range.mp ha)]
theorem a_R_new {K : aK} {ρ : Nat → Nat} {h : aH} {k : Nat × Nat} {q : Nat} {e : va_E} {H H1 : Heap} (hR : a_R K ρ h H) (hP : va_P K.1 a_cl (a_ws K ρ h ++ [(q, e)]) H1) (hD : va_D (fun q => K.2.2.1 ≤ q) (a_ws K ρ h ++ [(q, e)])) (he : ∀ ρ', a_ce K ρ' (h_n h k) h.1.1 = e) :
    ∃ ρ', a_R K ρ' (h_n h k) H1 ∧ (∀ a, a < h.1.1 → ρ' a = ρ a) ∧ ρ' h.1.1 = q := by
  refine ⟨fun a => if a < h.1.1 then ρ a else q, ?_, fun a ha => by simp [ha], by simp⟩
  have hρ : ∀ a, a < h.1.1 → (fun a => if a < h.1.1 then ρ a else q) a = ρ a := fun a ha => by simp [ha]
  have ew := a_ws_new (K := K) (k := k) hρ hR.2.2
  rw [he] at ew
  simp only [Nat.lt_irrefl, if_false] at ew
  refine ⟨by rw [ew]; exact hP, by rw [ew]; exact hD, fun a j b hb => ?_⟩
  simp only [h_n] at hb ⊢
  split at hb
  · cases hb
  · exact Nat.lt_succ_of_lt (hR.2.2 a j b hb)
theorem a_tys_get {K : aK} {t : Nat} (ht : t < 7) : (a_tys K)[t]? = some (K.2.1 t, a_aty t) := by simp [a_tys, ht]
section
variable {K : aK} {M : aMI} {d bc bs pc : Nat} {L S : List Value} {h : aH} {Q : aQ}
/-- a field's link: in the class's own words -/
def a_fl (own : String) (index ci k : Nat) : Prop := ∃ (C : String) (T : u_T) (N : Nat), a_cl[ci]? = some (C, T, N) ∧ k < N ∧ (T k).1 = C ∧ Cond.fieldLink own index C (T k).2.1 (T k).2.2.1 ∈ a_w0 ∧ (∀ w ∈ u_ws C T N, w ∈ a_w0) ∧ (∀ k, k < N → parseFieldDescriptor (T k).2.2.1 = some (a_ft ci k)) ∧ (∀ a, a < N → ∀ b, b < N → a ≠ b → (T a).2.1 ≠ (T b).2.1)
theorem g_getw {index a ci k n : Nat} {v : Value} (hd : decode M.2.1 pc = .ok (.getfield index, 3)) (hf : a_fl M.1 index ci k) (ha : h.1.2.1 a = (10 + ci, n)) (hn : k < n) (hv : ∀ ρ, a_fv ρ h ci a k = a_tr K ρ v) (hs : (∀ a k b : Nat, h.1.2.2.1 a k = some b → b < h.1.1) → a_sc h.1.1 v) (k' : G K M d bc bs (pc + 3) L (v :: S) h Q) : G K M d bc bs pc L (.ref a :: S) h Q := by
  intro p e s m args below meth c ρ0 z0 mc ms C ρ H locs cells slots ls h1 h2 h3 h4 h5 h6 h7 h8 h9
  obtain ⟨C', T, N, f1, f2, f3, f4, f5, f6, f7⟩ := hf
  have ha' : a < h.1.1 := h5 _ List.mem_cons_self
  have hw := k' p e s m args below meth c ρ0 z0 mc ms C ρ H locs cells slots ls h1 h2 h3 h4 (sc_co (hs h1.2.2) (sc_tl h5)) h6 h7 h8 h9
  refine va_get (D := K.1) (cl := a_cl) (tys := a_tys K) (ws := a_ws K ρ h) (v := a_tr K ρ v) C.1 C.2.1 C.2.2.2.2.2.1 f5 C.2.2.2.1 C.2.2.2.2.2.2.2.2.2.1.1 h1.1 a (by rw [a_ws_get ha', a_ce_o ha]) f1 k f2 (C.2.2.2.2.2.1 _ f4) (fun x hx => by rw [f3] at hx; exact hx) ?_ hd hw
  rw [List.getElem?_map, List.getElem?_range hn]
  simp [hv]
/-- an int field is read -/
theorem g_geti {index a ci k n : Nat} (hd : decode M.2.1 pc = .ok (.getfield index, 3)) (hf : a_fl M.1 index ci k) (ht : a_isr (a_ft ci k) = false) (ha : h.1.2.1 a = (10 + ci, n)) (hn : k < n) (k' : G K M d bc bs (pc + 3) L (.int (h.2 a k) :: S) h Q) : G K M d bc bs pc L (.ref a :: S) h Q :=
  g_getw hd hf ha hn (fun ρ => by simp [a_fv, ht, a_tr]) (fun _ => by trivial) k'
/-- a reference field is read -/
theorem g_getr {index a ci k n b : Nat} (hd : decode M.2.1 pc = .ok (.getfield index, 3)) (hf : a_fl M.1 index ci k) (ht : a_isr (a_ft ci k) = true) (ha : h.1.2.1 a = (10 + ci, n)) (hn : k < n) (hr : h.1.2.2.1 a k = some b) (k' : G K M d bc bs (pc + 3) L (.ref b :: S) h Q) : G K M d bc bs pc L (.ref a :: S) h Q :=
  g_getw (v := .ref b) hd hf ha hn (fun ρ => by simp [a_fv, ht, a_tr, hr, va_rf]) (fun hs => hs _ _ _ hr) k'
theorem g_getn {index a ci k n : Nat} (hd : decode M.2.1 pc = .ok (.getfield index, 3)) (hf : a_fl M.1 index ci k) (ht : a_isr (a_ft ci k) = true) (ha : h.1.2.1 a = (10 + ci, n)) (hn : k < n) (hr : h.1.2.2.1 a k = none) (k' : G K M d bc bs (pc + 3) L (.null :: S) h Q) : G K M d bc bs pc L (.ref a :: S) h Q :=
  g_getw hd hf ha hn (fun ρ => by simp [a_fv, ht, a_tr, hr, va_rf]) (fun _ => by trivial) k'
theorem g_putw {index a ci k n : Nat} {v : Value} {h' : aH} (hd : decode M.2.1 pc = .ok (.putfield index, 3)) (hf : a_fl M.1 index ci k) (ha : h.1.2.1 a = (10 + ci, n)) (hn : k < n)
    (hz : h'.1.1 = h.1.1) (hk : h'.1.2.1 = h.1.2.1) (ho : ∀ b, b ≠ a → h'.2 b = h.2 b ∧ h'.1.2.2.1 b = h.1.2.2.1 b ∧ h'.1.2.2.2 b = h.1.2.2.2 b) (hr : a_sc h.1.1 v → (∀ a k b : Nat, h.1.2.2.1 a k = some b → b < h.1.1) → ∀ a k b : Nat, h'.1.2.2.1 a k = some b → b < h'.1.1)
    (hv : ∀ ρ, a_fv ρ h' ci a k = a_tr K ρ v) (hj : ∀ ρ j, j ≠ k → a_fv ρ h' ci a j = a_fv ρ h ci a j) (hnar : ∀ ρ, narrow (a_ft ci k) (a_tr K ρ v) = a_tr K ρ v) (hfit : ∀ ρ, fits (a_ft ci k) (a_tr K ρ v) = true)
    (hfin : (∃ (C : String) (T : u_T) (N : Nat), a_cl[ci]? = some (C, T, N) ∧ ((T k).2.2.2 = false ∨ ((T k).2.2.2 = true ∧ M.2.2.2.2.1.name = "<init>" ∧ C = M.1))))
    (k' : G K M d bc bs (pc + 3) L S h' Q) : G K M d bc bs pc L (v :: .ref a :: S) h Q := by
  intro p e s m args below meth c ρ0 z0 mc ms C ρ H locs cells slots ls h1 h2 h3 h4 h5 h6 h7 h8 h9
  obtain ⟨C', T, N, f1, f2, f3, f4, f5, f6, f7⟩ := hf
  obtain ⟨C2, T2, N2, g1, g2⟩ := hfin
  obtain ⟨rfl, rfl, rfl⟩ : C2 = C' ∧ T2 = T ∧ N2 = N := by
    have := Option.some.inj (g1.symm.trans f1)
    simp only [Prod.mk.injEq] at this
    exact this
  have ha' : a < h.1.1 := h5 _ (List.mem_cons_of_mem _ List.mem_cons_self)
  have hvs : a_sc h.1.1 v := h5 _ List.mem_cons_self
  have hget : (a_ws K ρ h)[a]? = some (ρ a, .inr (ci, (List.range n).map (a_fv ρ h ci a))) := by rw [a_ws_get ha', a_ce_o ha]
  have hcell : a_ce K ρ h' a = .inr (ci, ((List.range n).map (a_fv ρ h ci a)).set k (a_tr K ρ v)) := by
    rw [a_ce_o (by rw [hk]; exact ha)]
    congr 2
    apply List.ext_getElem?
    intro i
    rw [List.getElem?_set, List.getElem?_map, List.getElem?_map]
    by_cases hik : k = i
    · subst hik
      rw [if_pos rfl, if_pos (by simpa using hn), List.getElem?_range hn]
      simp [hv]
    · rw [if_neg hik]
      by_cases hin : i < n
      · rw [List.getElem?_range hin]
        simp [hj ρ i (Ne.symm hik)]
      · have e0 : (List.range n)[i]? = none := by simp; omega
        rw [e0]; rfl
  have hset : (a_ws K ρ h).set a (ρ a, .inr (ci, ((List.range n).map (a_fv ρ h ci a)).set k (a_tr K ρ v))) = a_ws K ρ h' := by
    rw [← hcell]
    exact a_ws_set hz (fun b hb => a_ce_eq (by rw [hk]) (ho b hb).1 (ho b hb).2.1 (ho b hb).2.2)
  have go : ∀ (H1 : Heap) (locs1 : List Loc), va_P K.1 a_cl ((a_ws K ρ h).set a (ρ a, .inr (ci, ((List.range n).map (a_fv ρ h ci a)).set k (a_tr K ρ v)))) H1 → va_D (fun q => K.2.2.1 ≤ q) ((a_ws K ρ h).set a (ρ a, .inr (ci, ((List.range n).map (a_fv ρ h ci a)).set k (a_tr K ρ v)))) → va_S (fun q => K.2.2.1 ≤ q) s.heap H1 locs1 → W p K.2.2.2.2.2.2 e (a_rm d mc ms) s m args below meth c H1 locs1 cells slots (vx_MQ below (a_Qc K ρ0 z0 Q) (a_XC K ρ0 z0 Q) args s mc ms (fun q => K.2.2.1 ≤ q)) (F0 m (pc + 3) ls (S.map (a_tr K ρ))) := by
    intro H1 locs1 q1 q2 q3
    rw [hset] at q1 q2
    exact k' p e s m args below meth c ρ0 z0 mc ms C ρ H1 locs1 cells slots ls ⟨q1, q2, hr hvs h1.2.2⟩ h2 (by rw [hz]; exact h3) (by rw [hz]; exact h4) (by rw [hz]; exact sc_tl (sc_tl h5)) h6 q3 h8 h9
  rcases g2 with g2 | ⟨g2, g3, g4⟩
  · exact va_put (D := K.1) (cl := a_cl) (tys := a_tys K) (ws := a_ws K ρ h) (v := a_tr K ρ v) (ty := a_ft ci k) C.1 C.2.1 C.2.2.2.2.2.1 f5 (a_ft ci) f6 f7 C.2.2.2.1 C.2.2.2.2.2.2.2.2.2.1.1 h1.1 h1.2.1 h7 a hget f1 k f2 (C.2.2.2.2.2.1 _ f4) (fun x hx => by rw [f3] at hx; exact hx) g2 (f6 k f2) (hnar ρ) (hfit ρ) (by simpa using hn) hd go
  · exact va_putF (D := K.1) (cl := a_cl) (tys := a_tys K) (ws := a_ws K ρ h) (v := a_tr K ρ v) (ty := a_ft ci k) C.1 C.2.1 C.2.2.2.2.2.1 f5 (a_ft ci) f6 f7 C.2.2.2.1 C.2.2.2.2.2.2.2.2.2.1.1 h1.1 h1.2.1 h7 a hget f1 k f2 (C.2.2.2.2.2.1 _ f4) (fun x hx => by rw [f3] at hx; exact hx) g2 (C.2.2.2.2.2.2.2.1.trans g3) (f3.trans g4) (f6 k f2) (hnar ρ) (hfit ρ) (by simpa using hn) hd go
/-- may the field be written here: it isn't final, or this is its class's constructor -/
def a_wr (M : aMI) (ci k : Nat) : Prop := ∃ (C : String) (T : u_T) (N : Nat), a_cl[ci]? = some (C, T, N) ∧ ((T k).2.2.2 = false ∨ ((T k).2.2.2 = true ∧ M.2.2.2.2.1.name = "<init>" ∧ C = M.1))
/-- an int field is written -/
theorem g_puti {index a ci k n : Nat} {x : Int32} (hd : decode M.2.1 pc = .ok (.putfield index, 3)) (hf : a_fl M.1 index ci k) (ht : a_ft ci k = .int) (hw : a_wr M ci k) (ha : h.1.2.1 a = (10 + ci, n)) (hn : k < n) (k' : G K M d bc bs (pc + 3) L S (h_i h a k x) Q) : G K M d bc bs pc L (.int x :: .ref a :: S) h Q :=
  g_putw (h' := h_i h a k x) (v := .int x) hd hf ha hn rfl rfl (fun b hb => ⟨a_st_ne hb, rfl, rfl⟩) (fun _ hr => hr) (fun ρ => by simp [a_fv, ht, a_isr, a_st, a_tr]) (fun ρ j hj => by simp [a_fv, a_st, hj]) (fun ρ => by rw [ht]; rfl) (fun ρ => by rw [ht]; rfl) hw k'
/-- a boolean field is written -/
theorem g_putz {index a ci k n : Nat} {x : Int32} (hd : decode M.2.1 pc = .ok (.putfield index, 3)) (hf : a_fl M.1 index ci k) (ht : a_ft ci k = .boolean) (hx : x = 0 ∨ x = 1) (hw : a_wr M ci k) (ha : h.1.2.1 a = (10 + ci, n)) (hn : k < n) (k' : G K M d bc bs (pc + 3) L S (h_i h a k x) Q) : G K M d bc bs pc L (.int x :: .ref a :: S) h Q :=
  g_putw (h' := h_i h a k x) (v := .int x) hd hf ha hn rfl rfl (fun b hb => ⟨a_st_ne hb, rfl, rfl⟩) (fun _ hr => hr) (fun ρ => by simp [a_fv, ht, a_isr, a_st, a_tr]) (fun ρ j hj => by simp [a_fv, a_st, hj]) (fun ρ => by rw [ht]; rcases hx with rfl | rfl <;> rfl) (fun ρ => by rw [ht]; rcases hx with rfl | rfl <;> rfl) hw k'
theorem a_nar_ref {ty : FieldType} (ht : a_isr ty = true) (q : Nat) : narrow ty (.ref q) = .ref q ∧ fits ty (.ref q) = true ∧ narrow ty .null = .null ∧ fits ty .null = true := by
  cases ty <;> simp [a_isr] at ht <;> exact ⟨rfl, rfl, rfl, rfl⟩
/-- a reference field is written -/
theorem g_putr {index a ci k n b : Nat} (hd : decode M.2.1 pc = .ok (.putfield index, 3)) (hf : a_fl M.1 index ci k) (ht : a_isr (a_ft ci k) = true) (hw : a_wr M ci k) (ha : h.1.2.1 a = (10 + ci, n)) (hn : k < n) (k' : G K M d bc bs (pc + 3) L S (h_r h a k (some b)) Q) : G K M d bc bs pc L (.ref b :: .ref a :: S) h Q :=
  g_putw (h' := h_r h a k (some b)) (v := .ref b) hd hf ha hn rfl rfl (fun c hc => ⟨rfl, a_sr_ne hc, rfl⟩) (fun hb hr a' k' b' hq => by
    simp only [a_sr] at hq
    split at hq
    · cases hq; exact hb
    · exact hr _ _ _ hq) (fun ρ => by simp [a_fv, ht, a_sr, a_tr, va_rf]) (fun ρ j hj => by simp [a_fv, a_sr, hj]) (fun ρ => (a_nar_ref ht _).1) (fun ρ => (a_nar_ref ht _).2.1) hw k'
theorem g_putn {index a ci k n : Nat} (hd : decode M.2.1 pc = .ok (.putfield index, 3)) (hf : a_fl M.1 index ci k) (ht : a_isr (a_ft ci k) = true) (hw : a_wr M ci k) (ha : h.1.2.1 a = (10 + ci, n)) (hn : k < n) (k' : G K M d bc bs (pc + 3) L S (h_r h a k none) Q) : G K M d bc bs pc L (.null :: .ref a :: S) h Q :=
  g_putw (h' := h_r h a k none) (v := .null) hd hf ha hn rfl rfl (fun c hc => ⟨rfl, a_sr_ne hc, rfl⟩) (fun _ hr a' k' b' hq => by
    simp only [a_sr] at hq
    split at hq
    · cases hq
    · exact hr _ _ _ hq) (fun ρ => by simp [a_fv, ht, a_sr, a_tr, va_rf]) (fun ρ j hj => by simp [a_fv, a_sr, hj]) (fun ρ => (a_nar_ref ht 0).2.2.1) (fun ρ => (a_nar_ref ht 0).2.2.2) hw k'
/-- an index that is in: as a number -/
theorem a_in {i : Int32} {n j : Nat} (hi : i.toNatClampNeg = j) (h0 : ¬ i < 0) (hj : j < n) : vp_in i n := fun q => q.elim h0 (fun q => by omega)
theorem g_iald {a n : Nat} {i : Int32} (hd : decode M.2.1 pc = .ok (.iaload, 1)) (ha : h.1.2.1 a = (0, n)) (hi : vp_in i n) (k' : G K M d bc bs (pc + 1) L (.int (h.2 a i.toNatClampNeg) :: S) h Q) : G K M d bc bs pc L (.int i :: .ref a :: S) h Q := by
  intro p e s m args below meth c ρ0 z0 mc ms C ρ H locs cells slots ls h1 h2 h3 h4 h5 h6 h7 h8 h9
  have ha' : a < h.1.1 := h5 _ (List.mem_cons_of_mem _ List.mem_cons_self)
  exact va_iald (D := K.1) (cl := a_cl) (tys := a_tys K) (ws := a_ws K ρ h) C.1 C.2.1 C.2.2.2.2.2.2.2.2.2.1.1 h1.1 a 0 (by rw [a_ws_get ha', a_ce_i ha (by decide)]) (a_tys_get (by decide)) hi hd (k' p e s m args below meth c ρ0 z0 mc ms C ρ H locs cells slots ls h1 h2 h3 h4 (sc_co (by trivial) (sc_tl (sc_tl h5))) h6 h7 h8 h9)
theorem g_zald {a n : Nat} {i : Int32} (hd : decode M.2.1 pc = .ok (.baload, 1)) (ha : h.1.2.1 a = (1, n)) (hi : vp_in i n) (k' : G K M d bc bs (pc + 1) L (.int (h.2 a i.toNatClampNeg) :: S) h Q) : G K M d bc bs pc L (.int i :: .ref a :: S) h Q := by
  intro p e s m args below meth c ρ0 z0 mc ms C ρ H locs cells slots ls h1 h2 h3 h4 h5 h6 h7 h8 h9
  have ha' : a < h.1.1 := h5 _ (List.mem_cons_of_mem _ List.mem_cons_self)
  exact va_zald (D := K.1) (cl := a_cl) (tys := a_tys K) (ws := a_ws K ρ h) C.1 C.2.1 C.2.2.2.2.2.2.2.2.2.1.1 h1.1 a 1 (by rw [a_ws_get ha', a_ce_i ha (by decide)]) (a_tys_get (by decide)) hi hd (k' p e s m args below meth c ρ0 z0 mc ms C ρ H locs cells slots ls h1 h2 h3 h4 (sc_co (by trivial) (sc_tl (sc_tl h5))) h6 h7 h8 h9)
theorem g_lald {a n : Nat} {i : Int32} (hd : decode M.2.1 pc = .ok (.laload, 1)) (ha : h.1.2.1 a = (2, n)) (hi : vp_in i n) (k' : G K M d bc bs (pc + 1) L (.long (h.1.2.2.2 a i.toNatClampNeg) :: S) h Q) : G K M d bc bs pc L (.int i :: .ref a :: S) h Q := by
  intro p e s m args below meth c ρ0 z0 mc ms C ρ H locs cells slots ls h1 h2 h3 h4 h5 h6 h7 h8 h9
  have ha' : a < h.1.1 := h5 _ (List.mem_cons_of_mem _ List.mem_cons_self)
  exact va_lald (D := K.1) (cl := a_cl) (tys := a_tys K) (ws := a_ws K ρ h) C.1 C.2.1 C.2.2.2.2.2.2.2.2.2.1.1 h1.1 a 2 (by rw [a_ws_get ha', a_ce_l ha]) (a_tys_get (by decide)) hi hd (k' p e s m args below meth c ρ0 z0 mc ms C ρ H locs cells slots ls h1 h2 h3 h4 (sc_co (by trivial) (sc_tl (sc_tl h5))) h6 h7 h8 h9)
/-- from an array of references -/
theorem g_aald {a n t b : Nat} {i : Int32} (hd : decode M.2.1 pc = .ok (.aaload, 1)) (ha : h.1.2.1 a = (t, n)) (t1 : 2 < t) (t2 : t < 7) (hi : vp_in i n) (hr : h.1.2.2.1 a i.toNatClampNeg = some b) (k' : G K M d bc bs (pc + 1) L (.ref b :: S) h Q) : G K M d bc bs pc L (.int i :: .ref a :: S) h Q := by
  intro p e s m args below meth c ρ0 z0 mc ms C ρ H locs cells slots ls h1 h2 h3 h4 h5 h6 h7 h8 h9
  have ha' : a < h.1.1 := h5 _ (List.mem_cons_of_mem _ List.mem_cons_self)
  have hcell : (a_ws K ρ h)[a]? = some (ρ a, .inl (K.2.1 t, n, .inr (.inr (.inr (.inr (fun j => (h.1.2.2.1 a j).map ρ)))))) := by rw [a_ws_get ha', a_ce_r ha t1 t2]
  have hlt : i.toNatClampNeg < n := Nat.not_le.mp fun q => hi (Or.inr q)
  have hK := C.2.2.2.2.2.2.2.2.2.1.1
  have kk := k' p e s m args below meth c ρ0 z0 mc ms C ρ H locs cells slots ls h1 h2 h3 h4 (sc_co (h1.2.2 _ _ _ hr) (sc_tl (sc_tl h5))) h6 h7 h8 h9
  have hty : refKind (a_aty t) = true := by
    rcases (show t = 3 ∨ t = 4 ∨ t = 5 ∨ t = 6 by omega) with rfl | rfl | rfl | rfl <;> rfl
  exact W.aald (v := .ref (ρ b)) (ty := a_aty t) C.1 C.2.1 (h1.1 a _ hcell) ((hK.2 t _ (a_tys_get t2)).1 n (fun j => va_rf ((h.1.2.2.1 a j).map ρ))) hty (fun q => by cases q) (by show ¬ (i < 0 ∨ (arrV _ _ _).slots.size ≤ _); rw [arrV_size]; exact hi) (by show (arrV _ _ _).slots[_]? = _; rw [arrV_read _ _ hlt]; simp [hr, va_rf]) rfl rfl hd kk
theorem g_alen {a n t : Nat} {v : Int32} (hd : decode M.2.1 pc = .ok (.arraylength, 1)) (ha : h.1.2.1 a = (t, n)) (ht : t < 7) (hv : Int32.ofNat n = v) (k' : G K M d bc bs (pc + 1) L (.int v :: S) h Q) : G K M d bc bs pc L (.ref a :: S) h Q := by
  intro p e s m args below meth c ρ0 z0 mc ms C ρ H locs cells slots ls h1 h2 h3 h4 h5 h6 h7 h8 h9
  have ha' : a < h.1.1 := h5 _ List.mem_cons_self
  have hcell : ∃ x : vp_A, (a_ws K ρ h)[a]? = some (ρ a, .inl (K.2.1 t, x)) ∧ x.1 = n := by
    rw [a_ws_get ha']
    by_cases t1 : t < 2
    · exact ⟨_, by rw [a_ce_i ha t1], rfl⟩
    · by_cases t2 : t = 2
      · subst t2; exact ⟨_, by rw [a_ce_l ha], rfl⟩
      · exact ⟨_, by rw [a_ce_r ha (by omega) ht], rfl⟩
  obtain ⟨x, hx, hn⟩ := hcell
  exact va_alen (D := K.1) (cl := a_cl) (tys := a_tys K) (ws := a_ws K ρ h) C.1 C.2.1 C.2.2.2.2.2.2.2.2.2.1.1 h1.1 a t hx (a_tys_get ht) (by rw [hn]; exact hv) hd (k' p e s m args below meth c ρ0 z0 mc ms C ρ H locs cells slots ls h1 h2 h3 h4 (sc_co (by trivial) (sc_tl h5)) h6 h7 h8 h9)
theorem g_iast {a n : Nat} {i x : Int32} (hd : decode M.2.1 pc = .ok (.iastore, 1)) (ha : h.1.2.1 a = (0, n)) (hi : vp_in i n) (k' : G K M d bc bs (pc + 1) L S (h_i h a i.toNatClampNeg x) Q) : G K M d bc bs pc L (.int x :: .int i :: .ref a :: S) h Q := by
  intro p e s m args below meth c ρ0 z0 mc ms C ρ H locs cells slots ls h1 h2 h3 h4 h5 h6 h7 h8 h9
  have ha' : a < h.1.1 := h5 _ (List.mem_cons_of_mem _ (List.mem_cons_of_mem _ List.mem_cons_self))
  refine va_iast (D := K.1) (cl := a_cl) (tys := a_tys K) (ws := a_ws K ρ h) C.1 C.2.1 C.2.2.2.2.2.2.2.2.2.1.1 h1.1 h1.2.1 h7 a 0 (by rw [a_ws_get ha', a_ce_i ha (by decide)]) (a_tys_get (by decide)) hi hd (fun H1 locs1 q1 q2 q3 => ?_)
  have hset : (a_ws K ρ h).set a (ρ a, .inl (K.2.1 0, n, .inl (upd (h.2 a) i.toNatClampNeg x))) = a_ws K ρ (h_i h a i.toNatClampNeg x) := by
    rw [← a_ws_set (h := h) (h' := h_i h a i.toNatClampNeg x) (a := a) rfl (fun b hb => a_ce_eq rfl (a_st_ne hb) rfl rfl), a_ce_i (h := h_i h a i.toNatClampNeg x) ha (by decide), ← a_st_at]
  rw [hset] at q1 q2
  exact k' p e s m args below meth c ρ0 z0 mc ms C ρ H1 locs1 cells slots ls ⟨q1, q2, h1.2.2⟩ h2 h3 h4 (sc_tl (sc_tl (sc_tl h5))) h6 q3 h8 h9
theorem g_zast {a n : Nat} {i x : Int32} (hd : decode M.2.1 pc = .ok (.bastore, 1)) (ha : h.1.2.1 a = (1, n)) (hi : vp_in i n) (hx : x = 0 ∨ x = 1) (k' : G K M d bc bs (pc + 1) L S (h_i h a i.toNatClampNeg x) Q) : G K M d bc bs pc L (.int x :: .int i :: .ref a :: S) h Q := by
  intro p e s m args below meth c ρ0 z0 mc ms C ρ H locs cells slots ls h1 h2 h3 h4 h5 h6 h7 h8 h9
  have ha' : a < h.1.1 := h5 _ (List.mem_cons_of_mem _ (List.mem_cons_of_mem _ List.mem_cons_self))
  have hnx : vp_nar .boolean x = x := by rcases hx with rfl | rfl <;> rfl
  refine va_zast (D := K.1) (cl := a_cl) (tys := a_tys K) (ws := a_ws K ρ h) C.1 C.2.1 C.2.2.2.2.2.2.2.2.2.1.1 h1.1 h1.2.1 h7 a 1 (by rw [a_ws_get ha', a_ce_i ha (by decide)]) (a_tys_get (by decide)) hi hd (fun H1 locs1 q1 q2 q3 => ?_)
  have hset : (a_ws K ρ h).set a (ρ a, .inl (K.2.1 1, n, .inl (upd (h.2 a) i.toNatClampNeg x))) = a_ws K ρ (h_i h a i.toNatClampNeg x) := by
    rw [← a_ws_set (h := h) (h' := h_i h a i.toNatClampNeg x) (a := a) rfl (fun b hb => a_ce_eq rfl (a_st_ne hb) rfl rfl), a_ce_i (h := h_i h a i.toNatClampNeg x) ha (by decide), ← a_st_at]
  rw [hnx, hset] at q1 q2
  exact k' p e s m args below meth c ρ0 z0 mc ms C ρ H1 locs1 cells slots ls ⟨q1, q2, h1.2.2⟩ h2 h3 h4 (sc_tl (sc_tl (sc_tl h5))) h6 q3 h8 h9
theorem g_last {a n : Nat} {i : Int32} {x : Int64} (hd : decode M.2.1 pc = .ok (.lastore, 1)) (ha : h.1.2.1 a = (2, n)) (hi : vp_in i n) (k' : G K M d bc bs (pc + 1) L S (h_j h a i.toNatClampNeg x) Q) : G K M d bc bs pc L (.long x :: .int i :: .ref a :: S) h Q := by
  intro p e s m args below meth c ρ0 z0 mc ms C ρ H locs cells slots ls h1 h2 h3 h4 h5 h6 h7 h8 h9
  have ha' : a < h.1.1 := h5 _ (List.mem_cons_of_mem _ (List.mem_cons_of_mem _ List.mem_cons_self))
  refine va_last (D := K.1) (cl := a_cl) (tys := a_tys K) (ws := a_ws K ρ h) C.1 C.2.1 C.2.2.2.2.2.2.2.2.2.1.1 h1.1 h1.2.1 h7 a 2 (by rw [a_ws_get ha', a_ce_l ha]) (a_tys_get (by decide)) hi hd (fun H1 locs1 q1 q2 q3 => ?_)
  have hset : (a_ws K ρ h).set a (ρ a, .inl (K.2.1 2, n, .inr (.inl (vp_updL (h.1.2.2.2 a) i.toNatClampNeg x)))) = a_ws K ρ (h_j h a i.toNatClampNeg x) := by
    rw [← a_ws_set (h := h) (h' := h_j h a i.toNatClampNeg x) (a := a) rfl (fun b hb => a_ce_eq rfl rfl rfl (a_sj_ne hb)), a_ce_l (h := h_j h a i.toNatClampNeg x) ha]
    show _ = List.set _ _ (_, Sum.inl (_, _, Sum.inr (Sum.inl (a_sj h.1.2.2.2 a i.toNatClampNeg x a))))
    rw [a_sj_at]
  rw [hset] at q1 q2
  exact k' p e s m args below meth c ρ0 z0 mc ms C ρ H1 locs1 cells slots ls ⟨q1, q2, h1.2.2⟩ h2 h3 h4 (sc_tl (sc_tl (sc_tl h5))) h6 q3 h8 h9
/-- a Row is put into the array of Rows -/
theorem g_aast {a n b nb : Nat} {i : Int32} (hd : decode M.2.1 pc = .ok (.aastore, 1)) (ha : h.1.2.1 a = (6, n)) (hb : h.1.2.1 b = (16, nb)) (hi : vp_in i n) (k' : G K M d bc bs (pc + 1) L S (h_r h a i.toNatClampNeg (some b)) Q) : G K M d bc bs pc L (.ref b :: .int i :: .ref a :: S) h Q := by
  intro p e s m args below meth c ρ0 z0 mc ms C ρ H locs cells slots ls h1 h2 h3 h4 h5 h6 h7 h8 h9
  have ha' : a < h.1.1 := h5 _ (List.mem_cons_of_mem _ (List.mem_cons_of_mem _ List.mem_cons_self))
  have hb' : b < h.1.1 := h5 _ List.mem_cons_self
  refine va_astq (D := K.1) (cl := a_cl) (tys := a_tys K) (ws := a_ws K ρ h) (r := (R_Row, F_Row, 8)) C.1 C.2.1 C.2.2.2.2.2.2.2.2.2.1.1 h1.1 h1.2.1 h7 a 6 b 6 (by rw [a_ws_get ha', a_ce_r ha (by decide) (by decide)]) (a_tys_get (by decide)) (by rw [a_ws_get hb', a_ce_o (ci := 6) hb]) rfl hi hd (fun H1 locs1 q1 q2 q3 => ?_)
  have hset : (a_ws K ρ h).set a (ρ a, .inl (K.2.1 6, n, .inr (.inr (.inr (.inr (va_up (fun j => (h.1.2.2.1 a j).map ρ) i.toNatClampNeg (some (ρ b)))))))) = a_ws K ρ (h_r h a i.toNatClampNeg (some b)) := by
    rw [← a_ws_set (h := h) (h' := h_r h a i.toNatClampNeg (some b)) (a := a) rfl (fun c hc => a_ce_eq rfl rfl (a_sr_ne hc) rfl), a_ce_r (h := h_r h a i.toNatClampNeg (some b)) ha (by decide) (by decide)]
    have e9 : va_up (fun j => (h.1.2.2.1 a j).map ρ) i.toNatClampNeg (some (ρ b)) = fun j => (a_sr h.1.2.2.1 a i.toNatClampNeg (some b) a j).map ρ := by
      funext j
      rw [a_sr_at]
      unfold va_up
      split <;> rfl
    rw [e9]
  rw [hset] at q1 q2
  refine k' p e s m args below meth c ρ0 z0 mc ms C ρ H1 locs1 cells slots ls ⟨q1, q2, fun a' k' b' hq => ?_⟩ h2 h3 h4 (sc_tl (sc_tl (sc_tl h5))) h6 q3 h8 h9
  simp only [a_sr] at hq
  split at hq
  · cases hq; exact hb'
  · exact h1.2.2 _ _ _ hq
/-- a new object -/
def a_nl (own : String) (index ci n : Nat) : Prop := ∃ (C : String) (T : u_T), a_cl[ci]? = some (C, T, n) ∧ Cond.classLink own index C ∈ a_w0 ∧ Cond.instantiable C n ∈ a_w0 ∧ Cond.initialized C ∈ a_w0 ∧ (∀ w ∈ u_ws C T n, w ∈ a_w0) ∧ (∀ k, k < n → parseFieldDescriptor (T k).2.2.1 = some (a_ft ci k))
theorem a_dv (ty : FieldType) (ht : ty = .int ∨ ty = .boolean ∨ a_isr ty = true) : defaultValue ty = if a_isr ty = true then .null else .int 0 := by
  rcases ht with rfl | rfl | ht
  · rfl
  · rfl
  · cases ty <;> simp [a_isr] at ht <;> rfl
theorem g_new {index ci n : Nat} (hd : decode M.2.1 pc = .ok (.new index, 3)) (hf : a_nl M.1 index ci n) (ht : ∀ k, k < n → a_ft ci k = .int ∨ a_ft ci k = .boolean ∨ a_isr (a_ft ci k) = true) (hc : 1 ≤ bc) (hs : n ≤ bs) (k' : G K M d (bc - 1) (bs - n) (pc + 3) L (.ref h.1.1 :: S) (h_n h (10 + ci, n)) Q) : G K M d bc bs pc L S h Q := by
  intro p e s m args below meth c ρ0 z0 mc ms C ρ H locs cells slots ls h1 h2 h3 h4 h5 h6 h7 h8 h9
  obtain ⟨C', T, f1, f2, f3, f4, f5, f6⟩ := hf
  have hce : ∀ ρ', a_ce K ρ' (h_n h (10 + ci, n)) h.1.1 = .inr (ci, (List.range n).map (fun k => if a_isr (a_ft ci k) = true then Value.null else .int 0)) := fun ρ' => by
    rw [a_ce_o (h := h_n h (10 + ci, n)) (n := n) (ci := ci) (by simp [h_n])]
    congr 2
    apply List.map_congr_left
    intro k _
    simp [a_fv, h_n, va_rf]
  refine va_new (D := K.1) (cl := a_cl) (tys := a_tys K) (ws := a_ws K ρ h) (ci := ci) (fs := (List.range n).map (fun k => if a_isr (a_ft ci k) = true then Value.null else .int 0)) C.1 C.2.1 C.2.2.2.2.2.1 f5 (a_ft ci) f6 C.2.2.2.1 (C.2.2.2.2.2.1 _ f2) (C.2.2.2.2.2.1 _ f3) (C.2.2.2.2.2.1 _ f4) C.2.2.2.2.2.2.2.2.2.1.1 h1.1 h1.2.1 h7 (fun q hq => Nat.le_trans C.2.2.2.2.2.2.2.2.2.1.2.1 hq) f1 (fun j hj => ?_) (show cells + 1 ≤ mc by omega) (show slots + n ≤ ms by omega) hd (fun q H1 q1 q2 q3 => ?_)
  · rw [a_dv _ (ht j hj)]
    simp [vp_V, hj]
  · obtain ⟨ρ', r1, r2, r3⟩ := a_R_new (k := (10 + ci, n)) h1 q1 q2 hce
    have hz : (h_n h (10 + ci, n)).1.1 = h.1.1 + 1 := rfl
    have := k' p e s m args below meth c ρ0 z0 mc ms C ρ' H1 locs (cells + 1) (slots + n) ls r1 (fun a ha => by rw [r2 a (by omega)]; exact h2 a ha) (by rw [hz]; omega) (fun v hv => a_sl_mono (by rw [hz]; omega) (h4 v hv)) (sc_co (show h.1.1 < _ by rw [hz]; omega) (fun v hv => a_sc_mono (by rw [hz]; omega) (h5 v hv))) (a_lvK r2 h4 h6) q3 (by omega) (by omega)
    rw [List.map_cons, show a_tr K ρ' (.ref h.1.1) = .ref q by simp [a_tr, r3], a_map_agree r2 h5] at this
    exact this
/-- a new array of ints, booleans or longs -/
theorem g_newa {atype : ArrayType} {t N : Nat} {n : Int32} (hd : decode M.2.1 pc = .ok (.newarray atype, 2)) (hty : newarray.typeOf atype = a_aty t) (ht : t < 3) (hw : Cond.arrayClass (a_aty t) ∈ a_w0) (hn : ¬ n < 0) (hN : n.toNatClampNeg = N) (hb : N ≤ 60000000) (hc : 1 ≤ bc) (hs : N ≤ bs) (k' : G K M d (bc - 1) (bs - N) (pc + 2) L (.ref h.1.1 :: S) (h_n h (t, N)) Q) : G K M d bc bs pc L (.int n :: S) h Q := by
  intro p e s m args below meth c ρ0 z0 mc ms C ρ H locs cells slots ls h1 h2 h3 h4 h5 h6 h7 h8 h9
  have hK := C.2.2.2.2.2.2.2.2.2.1.1
  have hid : ∀ (cA : ClassId), va_K K.1 a_cl (a_tys K ++ [(cA, a_aty t)]) s → cA = K.2.1 t := fun cA hq => by
    have e1 := (hq.2 7 (cA, a_aty t) (by simp [a_tys])).2
    have e2 := (hK.2 t _ (a_tys_get (by omega))).2
    have e3 : s.vm.findClass ("[" ++ (a_aty t).toString) = some cA := by
      rcases (show t = 0 ∨ t = 1 ∨ t = 2 by omega) with rfl | rfl | rfl <;> exact e1
    have e4 : s.vm.findClass ("[" ++ (a_aty t).toString) = some (K.2.1 t) := by
      rcases (show t = 0 ∨ t = 1 ∨ t = 2 by omega) with rfl | rfl | rfl <;> exact e2
    exact Option.some.inj (e3.symm.trans e4)
  obtain ⟨a0, ha0, hce⟩ : ∃ a0 : vp_A, (∀ cA : ClassId, vp_cell cA a0 = arrV cA N (fun _ => defaultValue (a_aty t))) ∧ ∀ ρ', a_ce K ρ' (h_n h (t, N)) h.1.1 = .inl (K.2.1 t, a0) := by
    have z0 : (fun j => if h.1.1 = h.1.1 then (0 : Int32) else h.2 h.1.1 j) = fun _ => 0 := by funext j; simp
    rcases (show t = 0 ∨ t = 1 ∨ t = 2 by omega) with rfl | rfl | rfl
    · exact ⟨(N, .inl (fun _ => 0)), fun _ => rfl, fun ρ' => by rw [a_ce_i (h := h_n h (0, N)) (t := 0) (n := N) (by simp [h_n]) (by decide)]; simp [h_n]⟩
    · exact ⟨(N, .inl (fun _ => 0)), fun _ => rfl, fun ρ' => by rw [a_ce_i (h := h_n h (1, N)) (t := 1) (n := N) (by simp [h_n]) (by decide)]; simp [h_n]⟩
    · exact ⟨(N, .inr (.inl (fun _ => 0))), fun _ => rfl, fun ρ' => by rw [a_ce_l (h := h_n h (2, N)) (n := N) (by simp [h_n])]; simp [h_n]⟩
  refine va_newa (D := K.1) (cl := a_cl) (tys := a_tys K) (ws := a_ws K ρ h) (ty := a_aty t) (a0 := a0) C.1 C.2.1 (by rw [hty]; exact C.2.2.2.2.2.1 _ hw) hty hK h1.1 h1.2.1 h7 (fun q hq => Nat.le_trans C.2.2.2.2.2.2.2.2.2.1.2.1 hq) ha0 hn hN (by
    have : componentBytes (a_aty t) ≤ 8 := by rcases (show t = 0 ∨ t = 1 ∨ t = 2 by omega) with rfl | rfl | rfl <;> decide
    exact Nat.le_trans (Nat.mul_le_mul_left N this) (by omega)) (show cells + 1 ≤ mc by omega) (show slots + N ≤ ms by omega) hd (fun q cA H1 qK q1 q2 q3 => ?_)
  obtain rfl := hid cA qK
  obtain ⟨ρ', r1, r2, r3⟩ := a_R_new (k := (t, N)) h1 q1 q2 hce
  have hz : (h_n h (t, N)).1.1 = h.1.1 + 1 := rfl
  have := k' p e s m args below meth c ρ0 z0 mc ms C ρ' H1 locs (cells + 1) (slots + N) ls r1 (fun a ha => by rw [r2 a (by omega)]; exact h2 a ha) (by rw [hz]; omega) (fun v hv => a_sl_mono (by rw [hz]; omega) (h4 v hv)) (sc_co (show h.1.1 < _ by rw [hz]; omega) (fun v hv => a_sc_mono (by rw [hz]; omega) (sc_tl h5 v hv))) (a_lvK r2 h4 h6) q3 (by omega) (by omega)
  rw [List.map_cons, show a_tr K ρ' (.ref h.1.1) = .ref q by simp [a_tr, r3], a_map_agree r2 (sc_tl h5)] at this
  exact this
end
