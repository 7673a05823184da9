/-! ORDERS: what a run of them does to a stack -/
def St1 (O A a b : Nat → Int32) (i : Nat) (st : List Int32) (i1 : Nat) (st1 : List Int32) : Prop :=
  (O i = 0 ∧ i1 = i + 1 ∧ st1 = A i :: st) ∨
  (∃ l, l < 4 ∧ A i = nI l ∧ O i = 1 ∧ i1 = i + 1 ∧ st1 = a l :: st) ∨
  (∃ l, l < 4 ∧ A i = nI l ∧ O i = 2 ∧ i1 = i + 1 ∧ st1 = b l :: st) ∨
  (∃ t, t ≤ 400 ∧ A i = nI t ∧ O i = 3 ∧ i1 = t ∧ st1 = st) ∨
  (∃ t v, t ≤ 400 ∧ A i = nI t ∧ O i = 4 ∧ st = v :: st1 ∧ i1 = if v = 0 then t else i + 1) ∨
  (∃ v s, O i = 5 ∧ st = v :: s ∧ st1 = (1 - v) :: s ∧ i1 = i + 1) ∨
  (∃ x y s, 6 ≤ O i ∧ O i ≤ 16 ∧ st = y :: x :: s ∧ st1 = jn (O i) x y :: s ∧ i1 = i + 1)
def Mv (O A a b : Nat → Int32) (lo hi K : Nat) : Nat → Nat → List Int32 → Nat → List Int32 → Prop
  | 0, i, st, i', st' => i = i' ∧ st = st'
  | c + 1, i, st, i', st' => lo ≤ i ∧ i < hi ∧ ∃ i1 st1, st1.length ≤ K ∧ St1 O A a b i st i1 st1 ∧ Mv O A a b lo hi K c i1 st1 i' st'
theorem Mv.tr {O A a b : Nat → Int32} {lo hi K : Nat} : ∀ {c c' i i1 i2 : Nat} {s s1 s2 : List Int32}, Mv O A a b lo hi K c i s i1 s1 → Mv O A a b lo hi K c' i1 s1 i2 s2 → Mv O A a b lo hi K (c + c') i s i2 s2
  | 0, c', i, i1, i2, s, s1, s2, h, k => by
    obtain ⟨rfl, rfl⟩ := h
    rw [Nat.zero_add]
    exact k
  | c + 1, c', i, i1, i2, s, s1, s2, h, k => by
    obtain ⟨h1, h2, j, t, h3, h4, h5⟩ := h
    rw [Nat.add_right_comm]
    exact ⟨h1, h2, j, t, h3, h4, Mv.tr h5 k⟩
theorem Mv.mo {O A a b : Nat → Int32} {lo hi K lo' hi' K' : Nat} (hl : lo' ≤ lo) (hh : hi ≤ hi') (hK : K ≤ K') : ∀ {c i i1 : Nat} {s s1 : List Int32}, Mv O A a b lo hi K c i s i1 s1 → Mv O A a b lo' hi' K' c i s i1 s1
  | 0, _, _, _, _, h => h
  | c + 1, i, i1, s, s1, h => by
    obtain ⟨h1, h2, j, t, h3, h4, h5⟩ := h
    exact ⟨Nat.le_trans hl h1, Nat.lt_of_lt_of_le h2 hh, j, t, Nat.le_trans h3 hK, h4, Mv.mo hl hh hK h5⟩
theorem St1.cg {O A O' A' a b : Nat → Int32} {i : Nat} {st : List Int32} {i1 : Nat} {st1 : List Int32} (hO : O' i = O i) (hA : A' i = A i) (h : St1 O A a b i st i1 st1) : St1 O' A' a b i st i1 st1 := by
  unfold St1
  rw [hO, hA]
  exact h
theorem Mv.cg {O A O' A' a b : Nat → Int32} {lo hi K : Nat} (hO : ∀ j, lo ≤ j → j < hi → O' j = O j ∧ A' j = A j) : ∀ {c i i1 : Nat} {s s1 : List Int32}, Mv O A a b lo hi K c i s i1 s1 → Mv O' A' a b lo hi K c i s i1 s1
  | 0, _, _, _, _, h => h
  | c + 1, i, i1, s, s1, h => by
    obtain ⟨h1, h2, j, t, h3, h4, h5⟩ := h
    exact ⟨h1, h2, j, t, h3, h4.cg (hO i h1 h2).1 (hO i h1 h2).2, Mv.cg hO h5⟩
/-- the orders from u on, ahead of u', bring a value onto the stack -/
def Cd (O A : Nat → Int32) (u u' K : Nat) (v : pV) : Prop := ∀ (a b : Nat → Int32) (st : List Int32), ∃ c, c ≤ u' - u ∧ Mv O A a b u u' (st.length + K) c u st u' (v a b :: st)
theorem Cd.cg {O A O' A' : Nat → Int32} {u u' K : Nat} {v : pV} (h : Cd O A u u' K v) (hO : ∀ j, u ≤ j → j < u' → O' j = O j ∧ A' j = A j) : Cd O' A' u u' K v := fun a b st => by
  obtain ⟨c, hc, k⟩ := h a b st
  exact ⟨c, hc, k.cg hO⟩
theorem Cd.mo {O A : Nat → Int32} {u u' K K' : Nat} {v : pV} (h : Cd O A u u' K v) (hK : K ≤ K') : Cd O A u u' K' v := fun a b st => by
  obtain ⟨c, hc, k⟩ := h a b st
  exact ⟨c, hc, k.mo (Nat.le_refl _) (Nat.le_refl _) (by omega)⟩
theorem Mv.one {O A a b : Nat → Int32} {lo hi K i i1 : Nat} {s s1 : List Int32} (h1 : lo ≤ i) (h2 : i < hi) (h3 : s1.length ≤ K) (h : St1 O A a b i s i1 s1) : Mv O A a b lo hi K 1 i s i1 s1 := ⟨h1, h2, i1, s1, h3, h, rfl, rfl⟩
theorem Cd.num {O A : Nat → Int32} {u : Nat} {x : Int32} (hO : O u = 0) (hA : A u = x) : Cd O A u (u + 1) 1 (fun _ _ => x) := fun a b st =>
  ⟨1, by omega, Mv.one (Nat.le_refl _) (Nat.lt_succ_self _) (by simp) (Or.inl ⟨hO, rfl, by rw [hA]⟩)⟩
theorem Cd.lto {O A : Nat → Int32} {u l : Nat} (hl : l < 4) (hO : O u = 1) (hA : A u = nI l) : Cd O A u (u + 1) 1 (fun a _ => a l) := fun a b st =>
  ⟨1, by omega, Mv.one (Nat.le_refl _) (Nat.lt_succ_self _) (by simp) (Or.inr (Or.inl ⟨l, hl, hA, hO, rfl, rfl⟩))⟩
theorem Cd.ltn {O A : Nat → Int32} {u l : Nat} (hl : l < 4) (hO : O u = 2) (hA : A u = nI l) : Cd O A u (u + 1) 1 (fun _ b => b l) := fun a b st =>
  ⟨1, by omega, Mv.one (Nat.le_refl _) (Nat.lt_succ_self _) (by simp) (Or.inr (Or.inr (Or.inl ⟨l, hl, hA, hO, rfl, rfl⟩)))⟩
theorem Cd.not {O A : Nat → Int32} {u u1 K : Nat} {v : pV} (h : Cd O A u u1 K v) (hu : u ≤ u1) (hO : O u1 = 5) (hK : 1 ≤ K) : Cd O A u (u1 + 1) K (fun a b => 1 - v a b) := fun a b st => by
  obtain ⟨c, hc, k⟩ := h a b st
  refine ⟨c + 1, by omega, (k.mo (Nat.le_refl _) (Nat.le_succ _) (Nat.le_refl _)).tr (Mv.one hu (Nat.lt_succ_self _) ?_ (Or.inr (Or.inr (Or.inr (Or.inr (Or.inr (Or.inl ⟨v a b, st, hO, rfl, rfl, rfl⟩)))))))⟩
  simp only [List.length_cons]
  omega
theorem Cd.bin {O A : Nat → Int32} {u u1 u2 K K1 K2 : Nat} {v w : pV} {x : Int32} (h : Cd O A u u1 K1 v) (k : Cd O A u1 u2 K2 w) (hu : u ≤ u1) (hu2 : u1 ≤ u2) (hO : O u2 = x) (h6 : 6 ≤ x) (h16 : x ≤ 16) (hK1 : K1 ≤ K) (hK2 : K2 + 1 ≤ K) : Cd O A u (u2 + 1) K (pv2 (jn x) v w) := fun a b st => by
  obtain ⟨c, hc, p⟩ := h a b st
  obtain ⟨c', hc', q⟩ := k a b (v a b :: st)
  refine ⟨c + c' + 1, by omega, ((p.mo (Nat.le_refl _) (by omega) (by omega)).tr (q.mo hu (by omega) (by simp only [List.length_cons]; omega))).tr (Mv.one (by omega) (Nat.lt_succ_self _) ?_ (Or.inr (Or.inr (Or.inr (Or.inr (Or.inr (Or.inr ⟨v a b, w a b, st, by rw [hO]; exact h6, by rw [hO]; exact h16, rfl, by rw [hO]; rfl, rfl⟩)))))))⟩
  simp only [List.length_cons]
  omega
theorem Cd.iff {O A : Nat → Int32} {u u1 u2 u3 K K1 K2 K3 : Nat} {c v w : pV} (hc : Cd O A u u1 K1 c) (hv : Cd O A (u1 + 1) u2 K2 v) (hw : Cd O A (u2 + 1) u3 K3 w) (e1 : u ≤ u1) (e2 : u1 + 1 ≤ u2) (e3 : u2 + 1 ≤ u3) (e4 : u3 ≤ 400) (o1 : O u1 = 4) (a1 : A u1 = nI (u2 + 1)) (o2 : O u2 = 3) (a2 : A u2 = nI u3) (k1 : K1 ≤ K) (k2 : K2 ≤ K) (k3 : K3 ≤ K) (k0 : 1 ≤ K) : Cd O A u u3 K (fun a b => if c a b = 0 then w a b else v a b) := fun a b st => by
  obtain ⟨n1, h1, p1⟩ := hc a b st
  obtain ⟨n2, h2, p2⟩ := hv a b st
  obtain ⟨n3, h3, p3⟩ := hw a b st
  have p1' := p1.mo (lo' := u) (hi' := u3) (K' := st.length + K) (Nat.le_refl _) (by omega) (by omega)
  have p2' := p2.mo (lo' := u) (hi' := u3) (K' := st.length + K) (by omega) (by omega) (by omega)
  have p3' := p3.mo (lo' := u) (hi' := u3) (K' := st.length + K) (by omega) (Nat.le_refl _) (by omega)
  by_cases z : c a b = 0
  · refine ⟨n1 + 1 + n3, by omega, ?_⟩
    simp only [z, if_true]
    refine (p1'.tr (Mv.one (i1 := u2 + 1) (s1 := st) e1 (by omega) (by omega) (Or.inr (Or.inr (Or.inr (Or.inr (Or.inl ⟨u2 + 1, c a b, by omega, a1, o1, rfl, by rw [if_pos z]⟩))))))).tr p3'
  · refine ⟨n1 + 1 + n2 + 1, by omega, ?_⟩
    simp only [z, if_false]
    refine ((p1'.tr (Mv.one (i1 := u1 + 1) (s1 := st) e1 (by omega) (by omega) (Or.inr (Or.inr (Or.inr (Or.inr (Or.inl ⟨u2 + 1, c a b, by omega, a1, o1, rfl, by rw [if_neg z]⟩))))))).tr p2').tr (Mv.one (i1 := u3) (by omega) (by omega) (by simp only [List.length_cons]; omega) (Or.inr (Or.inr (Or.inr (Or.inl ⟨u3, e4, a2, o2, rfl, rfl⟩)))))
/-! the class's machine does so -/
def fW (a0 : Nat) : Nat → Nat → Prop := fun b j => b = a0 + 8
/-- the stack lies in the array, its top last -/
def Sk (w : Nat → Int32) : List Int32 → Prop
  | [] => True
  | x :: st => w st.length = x ∧ Sk w st
theorem Sk.cg {w w' : Nat → Int32} : ∀ {st : List Int32}, Sk w st → (∀ j, j < st.length → w' j = w j) → Sk w' st
  | [], _, _ => trivial
  | x :: st, h, e => ⟨(e _ (by simp)).trans h.1, Sk.cg h.2 (fun j hj => e j (by simp only [List.length_cons]; omega))⟩
theorem jn_10 (l r : Int32) : (if r ≤ l then some r else some l) = some (if r < l then r else l) := by
  by_cases h : r < l
  · rw [if_pos h, if_pos (by rw [i_lt] at h; rw [i_le]; omega)]
  · rw [if_neg h]
    by_cases e : r ≤ l
    · rw [if_pos e, show r = l from Int32.toInt_inj.mp (by rw [i_lt] at h; rw [i_le] at e; omega)]
    · rw [if_neg e]
theorem jn_11 (l r : Int32) : (if l ≤ r then some r else some l) = some (if l < r then r else l) := by
  by_cases h : l < r
  · rw [if_pos h, if_pos (by rw [i_lt] at h; rw [i_le]; omega)]
  · rw [if_neg h]
    by_cases e : l ≤ r
    · rw [if_pos e, show r = l from Int32.toInt_inj.mp (by rw [i_lt] at h; rw [i_le] at e; omega)]
    · rw [if_neg e]
theorem jn_join (x l r : Int32) (m : aM) : f_Len_join x l r m = some (jn x l r) := by
  unfold f_Len_join jn
  by_cases h9 : x = 9
  · subst h9
    by_cases h0 : r = 0
    · simp [h0]
    · simp [h0, nz, o_gd]
  · simp only [if_neg h9, jn_10, jn_11]
    repeat' split
    all_goals rfl
theorem inb_nI {i n : Nat} (h : i < n) (hn : n < 2 ^ 31) : inb (nI i) n = true := by
  rw [inb_iff, nI_toInt (by omega)]
  omega
theorem nI_400 {i : Nat} (h : i < 400) : ¬ (400 : Int32) ≤ nI i := nI_ge (b := 400) h (by decide)
theorem Fr.sto {P : Nat → Nat → Prop} {m m' : aM} {a i : Nat} {x : Int32} (h : Fr P (a_st m a i x) m') (ha : P a i) : Fr P m m' := Fr.tr (Fr.st Fr.rf ha) h
theorem vo_l {x : Int32} {l a2 a3 : Nat} {m : aM} (hl : l < 4) (hx : x = 1 ∨ x = 2) : f_Len_valueOf x (nI l) a2 a3 m = some (if x = 1 then m a2 l else m a3 l) := by
  have h1 : ¬ nI l < 0 := nI_pos (by omega)
  have h2 : ¬ (4 : Int32) ≤ nI l := nI_ge (b := 4) hl (by decide)
  have h3 : (nI l).toNatClampNeg = l := nI_clamp (by omega)
  have h4 : inb (nI l) 4 = true := inb_nI hl (by decide)
  unfold f_Len_valueOf b_Len_valueOf_16
  rcases hx with rfl | rfl
  · simp [h1, h2, h3, h4, o_gd_t]
  · simp [h1, h2, h3, h4, o_gd_t]
/-- one order is done -/
theorem work_1 {O A : Nat → Int32} {F N a0 a3 a4 e i t i1 : Nat} {m : aM} {st st1 : List Int32} (ht : t < 400) (hi : i < e) (h4 : i < 400) (he : e ≤ 400) (hO : m (a0 + 1) i = O i) (hA : m (a0 + 2) i = A i) (hk : Sk (m (a0 + 8)) st) (hl : st.length ≤ 64) (hl1 : st1.length ≤ 64) (h : St1 O A (m a3) (m a4) i st i1 st1) :
    ∃ m', ll_Len_work_9 F (N + 1) a0 (nI e) a3 a4 (nI st.length) (nI i) (nI t) m = ll_Len_work_9 F N a0 (nI e) a3 a4 (nI st1.length) (nI i1) (nI (t + 1)) m' ∧ Sk (m' (a0 + 8)) st1 ∧ Fr (fW a0) m m' := by
  have c1 : ¬ (400 : Int32) ≤ nI t := nI_400 ht
  have c2 : ¬ nI i < 0 := nI_pos (by omega)
  have c3 : ¬ nI e ≤ nI i := nI_ge hi (by omega)
  have c4 : ¬ (400 : Int32) ≤ nI i := nI_400 h4
  have c5 : inb (nI i) 400 = true := inb_nI h4 (by decide)
  have c6 : (nI i).toNatClampNeg = i := nI_clamp (by omega)
  have et : nI t + 1 = nI (t + 1) := nI_1 t
  have ei : nI i + 1 = nI (i + 1) := nI_1 i
  show ∃ m', lb_Len_work_9 F (ll_Len_work_9 F N) a0 (nI e) a3 a4 (nI st.length) (nI i) (nI t) m = _ ∧ _
  unfold lb_Len_work_9 b_Len_work_142 b_Len_work_217
  simp only [if_neg c1, if_neg c2, if_neg c3, if_neg c4, c5, c6, o_gd_t, o_let_eq, hO, hA, et, ei]
  rcases h with ⟨ho, rfl, rfl⟩ | ⟨l, q, ha, ho, rfl, rfl⟩ | ⟨l, q, ha, ho, rfl, rfl⟩ | ⟨t', q, ha, ho, rfl, rfl⟩ | ⟨t', v, q, ha, ho, rfl, rfl⟩ | ⟨v, s, ho, rfl, rfl, rfl⟩ | ⟨x, y, s, h6, h16, rfl, rfl, rfl⟩
  · have l1 : st.length < 64 := by simp only [List.length_cons] at hl1; omega
    simp only [ho, show ¬ (2 : Int32) < 0 by decide, if_false, show nI st.length < 64 from nI_lt (b := 64) l1 (by decide), if_true, show f_Len_valueOf 0 (A i) a3 a4 m = some (A i) from rfl, o_b_some, inb_nI l1 (by decide), o_gd_t, nI_clamp (show st.length < 2 ^ 31 by omega), nI_1]
    exact ⟨_, rfl, ⟨a_st_self, hk.cg (fun j hj => a_st_no (by omega))⟩, Fr.rf.st rfl⟩
  · have l1 : st.length < 64 := by simp only [List.length_cons] at hl1; omega
    simp only [ho, ha, show ¬ (2 : Int32) < 1 by decide, if_false, show nI st.length < 64 from nI_lt (b := 64) l1 (by decide), if_true, vo_l q (Or.inl rfl), o_b_some, inb_nI l1 (by decide), o_gd_t, nI_clamp (show st.length < 2 ^ 31 by omega), nI_1]
    exact ⟨_, rfl, ⟨a_st_self, hk.cg (fun j hj => a_st_no (by omega))⟩, Fr.rf.st rfl⟩
  · have l1 : st.length < 64 := by simp only [List.length_cons] at hl1; omega
    simp only [ho, ha, show ¬ (2 : Int32) < 2 by decide, if_false, show nI st.length < 64 from nI_lt (b := 64) l1 (by decide), if_true, vo_l q (Or.inr rfl), o_b_some, inb_nI l1 (by decide), o_gd_t, nI_clamp (show st.length < 2 ^ 31 by omega), nI_1, show ¬ (2 : Int32) = 1 by decide]
    exact ⟨_, rfl, ⟨a_st_self, hk.cg (fun j hj => a_st_no (by omega))⟩, Fr.rf.st rfl⟩
  · simp only [ho, ha, show (2 : Int32) < 3 by decide, if_true]
    exact ⟨_, rfl, hk, Fr.rf⟩
  · simp only [List.length_cons] at hl
    simp only [ho, ha, List.length_cons, show (2 : Int32) < 4 by decide, if_true, show ¬ (4 : Int32) = 3 by decide, if_false, show (1 : Int32) ≤ nI (st1.length + 1) from nI_le (a := 1) (by omega) (by omega), nI_pred, inb_nI (show st1.length < 64 by omega) (by decide), o_gd_t, nI_clamp (show st1.length < 2 ^ 31 by omega), hk.1]
    by_cases hv : v = 0
    · simp only [if_pos hv]
      exact ⟨_, rfl, hk.2, Fr.rf⟩
    · simp only [if_neg hv]
      exact ⟨_, rfl, hk.2, Fr.rf⟩
  · simp only [List.length_cons] at hl
    simp only [ho, List.length_cons, show (2 : Int32) < 5 by decide, if_true, show ¬ (5 : Int32) = 3 by decide, show ¬ (5 : Int32) = 4 by decide, if_false, show (1 : Int32) ≤ nI (s.length + 1) from nI_le (a := 1) (by omega) (by omega), nI_pred, inb_nI (show s.length < 64 by omega) (by decide), o_gd_t, nI_clamp (show s.length < 2 ^ 31 by omega), hk.1]
    exact ⟨_, rfl, ⟨a_st_self, hk.2.cg (fun j hj => a_st_no (by omega))⟩, Fr.rf.st rfl⟩
  · simp only [List.length_cons] at hl
    have g1 : (2 : Int32) < O i := by rw [i_le] at h6; rw [i_lt]; have : (6 : Int32).toInt = 6 := rfl; have : (2 : Int32).toInt = 2 := rfl; omega
    have g2 : ∀ k : Int32, k.toInt < 6 → ¬ O i = k := fun k hk' q => by rw [q, i_le] at h6; have : (6 : Int32).toInt = 6 := rfl; omega
    simp only [List.length_cons, g1, if_true, g2 3 (by decide), g2 4 (by decide), g2 5 (by decide), if_false, show (1 : Int32) ≤ nI (s.length + 1 + 1) from nI_le (a := 1) (by omega) (by omega), show (2 : Int32) ≤ nI (s.length + 1 + 1) from nI_le (a := 2) (by omega) (by omega), nI_pred, inb_nI (show s.length < 64 by omega) (by decide), inb_nI (show s.length + 1 < 64 by omega) (by decide), o_gd_t, nI_clamp (show s.length < 2 ^ 31 by omega), nI_clamp (show s.length + 1 < 2 ^ 31 by omega), jn_join, o_b_some]
    have k1 : m (a0 + 8) (s.length + 1) = y := by simpa using hk.1
    have k2 : m (a0 + 8) s.length = x := hk.2.1
    rw [k1, k2]
    exact ⟨_, rfl, ⟨a_st_self, hk.2.2.cg (fun j hj => a_st_no (by omega))⟩, Fr.rf.st rfl⟩
theorem work_n {O A : Nat → Int32} {F a0 a3 a4 e lo hi K : Nat} (h3 : a3 ≠ a0 + 8) (h4 : a4 ≠ a0 + 8) (hK : K ≤ 64) (he : e ≤ 400) (hh : hi ≤ e) : ∀ (c N : Nat) {i t i1 : Nat} {m : aM} {st st1 : List Int32}, t + c ≤ 400 → (∀ j, j < 400 → m (a0 + 1) j = O j ∧ m (a0 + 2) j = A j) → Sk (m (a0 + 8)) st → st.length ≤ 64 → Mv O A (m a3) (m a4) lo hi K c i st i1 st1 →
    ∃ m', ll_Len_work_9 F (N + c) a0 (nI e) a3 a4 (nI st.length) (nI i) (nI t) m = ll_Len_work_9 F N a0 (nI e) a3 a4 (nI st1.length) (nI i1) (nI (t + c)) m' ∧ Sk (m' (a0 + 8)) st1 ∧ Fr (fW a0) m m'
  | 0, N, i, t, i1, m, st, st1, _, _, hk, _, h => by
    obtain ⟨rfl, rfl⟩ := h
    exact ⟨m, rfl, hk, Fr.rf⟩
  | c + 1, N, i, t, i1, m, st, st1, ht, hc, hk, hl, h => by
    obtain ⟨g1, g2, j, s, g3, g4, g5⟩ := h
    obtain ⟨m1, e1, k1, f1⟩ := work_1 (F := F) (N := N + c) (a0 := a0) (e := e) (t := t) (by omega) (by omega) (by omega) he (hc i (by omega)).1 (hc i (by omega)).2 hk hl (by omega) g4
    have q3 : m1 a3 = m a3 := funext fun j => f1 a3 j h3
    have q4 : m1 a4 = m a4 := funext fun j => f1 a4 j h4
    obtain ⟨m2, e2, k2, f2⟩ := work_n h3 h4 hK he hh c N (i := j) (t := t + 1) (m := m1) (st := s) (by omega) (fun j hj => ⟨(f1 _ _ (show ¬ a0 + 1 = a0 + 8 by omega)).trans (hc j hj).1, (f1 _ _ (show ¬ a0 + 2 = a0 + 8 by omega)).trans (hc j hj).2⟩) k1 (by omega) (by rw [q3, q4]; exact g5)
    exact ⟨m2, by rw [show N + (c + 1) = N + c + 1 from rfl, e1, e2, show t + (c + 1) = t + 1 + c by omega], k2, f1.tr f2⟩
/-- the orders of an expression, worked -/
theorem work_cd {O A : Nat → Int32} {F a0 a3 a4 u e K : Nat} {v : pV} {m : aM} (h3 : a3 ≠ a0 + 8) (h4 : a4 ≠ a0 + 8) (hK : K ≤ 64) (hF : 401 ≤ F) (he : e ≤ 400) (hc : ∀ j, j < 400 → m (a0 + 1) j = O j ∧ m (a0 + 2) j = A j) (hu : u ≤ e) (h : Cd O A u e K v) :
    ∃ m', f_Len_work F a0 (nI u) (nI e) a3 a4 m = some (v (m a3) (m a4), m') ∧ Fr (fW a0) m m' := by
  obtain ⟨c, hc', k⟩ := h (m a3) (m a4) []
  obtain ⟨m1, e1, k1, f1⟩ := work_n (F := F) (N := F - c) h3 h4 (K := 0 + K) (by omega) he (Nat.le_refl e) c (t := 0) (st := []) (by omega) hc trivial (by simp) k
  refine ⟨m1, ?_, f1⟩
  unfold f_Len_work
  rw [show F - c + c = F by omega] at e1
  refine (show ll_Len_work_9 F F a0 (nI e) a3 a4 0 (nI u) 0 m = _ from e1).trans ?_
  obtain ⟨N, hN⟩ : ∃ N, F - c = N + 1 := ⟨F - c - 1, by omega⟩
  rw [hN]
  show lb_Len_work_9 F (ll_Len_work_9 F N) a0 (nI e) a3 a4 1 (nI e) (nI (0 + c)) m1 = _
  have b : b_Len_work_223 F a0 1 m1 = some (v (m a3) (m a4), m1) := by
    unfold b_Len_work_223
    simp only [show ¬ (1 : Int32) ≤ 0 by decide, if_false, o_let_eq, show inb ((1 : Int32) - 1) 64 = true by decide, o_gd_t]
    exact congrArg (fun x => some (x, m1)) k1.1
  unfold lb_Len_work_9
  have z : nI e ≤ nI e := nI_le (Nat.le_refl _) (by omega)
  simp only [b, z, if_true, ite_self]
theorem work_0 {F a0 a3 a4 : Nat} {m : aM} (hF : 1 ≤ F) : f_Len_work F a0 0 0 a3 a4 m = some (0, m) := by
  obtain ⟨N, rfl⟩ : ∃ N, F = N + 1 := ⟨F - 1, by omega⟩
  rfl
