/-! THE REFERENCE'S READER: outcomes -/
def MS (T : Nat → Int32) (n : Nat) (s : Int32) (a b : Nat → Int32) (ft : Int32) (m : aM) (p o : Nat) : Prop := TM T n m ∧ m 242 13 = nI p ∧ m 242 14 = nI o ∧ m 242 15 = 0 ∧ m 242 18 = s ∧ p ≤ n ∧ m 249 = a ∧ m 250 = b ∧ m 242 16 = ft
def MF (T : Nat → Int32) (n : Nat) (m : aM) (p : Nat) (k : Int32) (q : Nat) : Prop := TM T n m ∧ m 242 13 = nI p ∧ m 242 15 = k ∧ k ≠ 0 ∧ m 242 16 = nI q
/-- what is done with a fault told already -/
def MZ (T : Nat → Int32) (n : Nat) (bl : Bool) (m0 : aM) (r : Option (Int32 × aM)) (k : Int32) (q E : Nat) : Prop := ∃ x m' p', r = some (x, m') ∧ MF T n m' p' k q ∧ p' ≤ E ∧ Fr fM m0 m' ∧ (bl = true → isb x = true)
def MO {α : Type} (T : Nat → Int32) (n : Nat) (s : Int32) (a b : Nat → Int32) (ft : Int32) (ok : Prop) (R : α → Int32 → Prop) (o E : Nat) (bl : Bool) (m0 : aM) (r : Option (Int32 × aM)) (y : pO α) : Prop :=
  (∀ q v, y = .inr (q, v) → ∃ x m', r = some (x, m') ∧ R v x ∧ MS T n s a b ft m' q o ∧ Fr fM m0 m' ∧ (bl = true → isb x = true)) ∧ (ok → ∀ k q, y = .inl (k, q) → MZ T n bl m0 r k q E)
def MR (T : Nat → Int32) (n : Nat) (al : Bool) (s : Int32) (a b : Nat → Int32) (ft : Int32) (f : aM → Option (Int32 × aM)) (X : Nat → pO pV) (o E : Nat) (bl : Bool) : Prop :=
  (∀ m p, MS T n s a b ft m p o → MO T n s a b ft (al = true → s ≠ 0) (fun v x => x = v a b) o E bl m (f m) (X p) ∧ ∀ q v, X p = .inr (q, v) → p < q) ∧ (∀ E' m p k q, 400 ≤ E' → E' ≤ 4000 → MF T n m p k q → p ≤ E' → MZ T n bl m (f m) k q E')
section
variable {T : Nat → Int32} {n : Nat} {s : Int32} {a b : Nat → Int32} {ft : Int32} {ok : Prop}
theorem MZ.bind {bl1 bl : Bool} {m0 : aM} {r : Option (Int32 × aM)} {k : Int32} {q E1 E : Nat} {c : Int32 → aM → Option (Int32 × aM)} (h : MZ T n bl1 m0 r k q E1) (hf : ∀ x m1 p1, MF T n m1 p1 k q → p1 ≤ E1 → (bl1 = true → isb x = true) → MZ T n bl m1 (c x m1) k q E) : MZ T n bl m0 (o_b2 r c) k q E := by
  obtain ⟨x, m1, p1, e, h1, h2, h3, h4⟩ := h
  obtain ⟨x', m2, p2, e', g1, g2, g3, g4⟩ := hf x m1 p1 h1 h2 h4
  exact ⟨x', m2, p2, by rw [e]; exact e', g1, g2, h3.tr g3, g4⟩
theorem MZ.tr {bl : Bool} {m0 m1 : aM} {r : Option (Int32 × aM)} {k : Int32} {q E E' : Nat} (f : Fr fM m0 m1) (h : MZ T n bl m1 r k q E) (hE : E ≤ E') : MZ T n bl m0 r k q E' := by
  obtain ⟨x, m', p', e, h1, h2, h3, h4⟩ := h
  exact ⟨x, m', p', e, h1, by omega, f.tr h3, h4⟩
theorem MO.bind {α β : Type} {R1 : α → Int32 → Prop} {R : β → Int32 → Prop} {o1 o E1 E : Nat} {bl1 bl : Bool} {m0 : aM} {r : Option (Int32 × aM)} {X : pO α} {Y : Nat → α → pO β} {c : Int32 → aM → Option (Int32 × aM)} (h : MO T n s a b ft ok R1 o1 E1 bl1 m0 r X) (hs : ∀ q v x m1, X = .inr (q, v) → R1 v x → MS T n s a b ft m1 q o1 → Fr fM m0 m1 → (bl1 = true → isb x = true) → MO T n s a b ft ok R o E bl m1 (c x m1) (Y q v)) (hf : ∀ x m1 p1 k q, MF T n m1 p1 k q → p1 ≤ E1 → (bl1 = true → isb x = true) → MZ T n bl m1 (c x m1) k q E) : MO T n s a b ft ok R o E bl m0 (o_b2 r c) (pB X Y) := by
  refine ⟨fun q v e => ?_, fun hk k q e => ?_⟩
  · obtain ⟨q1, v1, e1, e⟩ := pB_inr e
    obtain ⟨x, m1, e2, h1, h2, h3, h4⟩ := h.1 q1 v1 e1
    obtain ⟨x', m2, e3, g1, g2, g3, g4⟩ := (hs q1 v1 x m1 e1 h1 h2 h3 h4).1 q v e
    exact ⟨x', m2, by rw [e2]; exact e3, g1, g2, h3.tr g3, g4⟩
  · rcases pB_inl e with e | ⟨q1, v1, e1, e⟩
    · exact (h.2 hk k q e).bind (fun x m1 p1 g1 g2 g3 => hf x m1 p1 k q g1 g2 g3)
    · obtain ⟨x, m1, e2, h1, h2, h3, h4⟩ := h.1 q1 v1 e1
      obtain ⟨x', m2, p2, e3, g1, g2, g3, g4⟩ := (hs q1 v1 x m1 e1 h1 h2 h3 h4).2 hk k q e
      exact ⟨x', m2, p2, by rw [e2]; exact e3, g1, g2, h3.tr g3, g4⟩
theorem MO.tr {α : Type} {R : α → Int32 → Prop} {o E E' : Nat} {bl : Bool} {m0 m1 : aM} {r : Option (Int32 × aM)} {y : pO α} (f : Fr fM m0 m1) (h : MO T n s a b ft ok R o E bl m1 r y) (hE : E ≤ E') : MO T n s a b ft ok R o E' bl m0 r y := by
  refine ⟨fun q v e => ?_, fun hk k q e => (h.2 hk k q e).tr f hE⟩
  obtain ⟨x, m', e1, h1, h2, h3, h4⟩ := h.1 q v e
  exact ⟨x, m', e1, h1, h2, f.tr h3, h4⟩
theorem MO.ret {α : Type} {R : α → Int32 → Prop} {o E q : Nat} {bl : Bool} {m0 m1 : aM} {x : Int32} {v : α} (h1 : R v x) (h2 : MS T n s a b ft m1 q o) (h3 : Fr fM m0 m1) (h4 : bl = true → isb x = true) : MO T n s a b ft ok R o E bl m0 (some (x, m1)) (.inr (q, v)) := by
  refine ⟨fun q' v' e => ?_, fun _ k q e => by simp at e⟩
  simp only [Sum.inr.injEq, Prod.mk.injEq] at e
  obtain ⟨rfl, rfl⟩ := e
  exact ⟨x, m1, rfl, h1, h2, h3, h4⟩
theorem MO.fau {α : Type} {R : α → Int32 → Prop} {o E q : Nat} {bl : Bool} {m0 : aM} {k : Int32} {r : Option (Int32 × aM)} (h : MZ T n bl m0 r k q E) : MO T n s a b ft ok R o E bl m0 r (.inl (k, q)) := by
  refine ⟨fun q' v' e => by simp at e, fun _ k' q' e => ?_⟩
  simp only [Sum.inl.injEq, Prod.mk.injEq] at e
  obtain ⟨rfl, rfl⟩ := e
  exact h
theorem MS.at {m : aM} {p o : Nat} (h : MS T n s a b ft m p o) {q : Nat} (hq : q ≤ n) : MS T n s a b ft (a_st m 242 13 (nI q)) q o := ⟨h.1.fr (Fr.rf.st (by simp [fM])), a_st_self, by rw [a_st_no (by decide)]; exact h.2.2.1, by rw [a_st_no (by decide)]; exact h.2.2.2.1, by rw [a_st_no (by decide)]; exact h.2.2.2.2.1, hq, by rw [a_st_ne (by decide)]; exact h.2.2.2.2.2.2.1, by rw [a_st_ne (by decide)]; exact h.2.2.2.2.2.2.2.1, by rw [a_st_no (by decide)]; exact h.2.2.2.2.2.2.2.2⟩
theorem MS.op {m : aM} {p o : Nat} (h : MS T n s a b ft m p o) (o' : Nat) : MS T n s a b ft (a_st m 242 14 (nI o')) p o' := ⟨h.1.fr (Fr.rf.st (by simp [fM])), by rw [a_st_no (by decide)]; exact h.2.1, a_st_self, by rw [a_st_no (by decide)]; exact h.2.2.2.1, by rw [a_st_no (by decide)]; exact h.2.2.2.2.1, h.2.2.2.2.2.1, by rw [a_st_ne (by decide)]; exact h.2.2.2.2.2.2.1, by rw [a_st_ne (by decide)]; exact h.2.2.2.2.2.2.2.1, by rw [a_st_no (by decide)]; exact h.2.2.2.2.2.2.2.2⟩
theorem MS.n4 {m : aM} {p o : Nat} (h : MS T n s a b ft m p o) : n ≤ 400 := h.1.1.1
theorem MF.at {m : aM} {p q : Nat} {k : Int32} (h : MF T n m p k q) (p' : Nat) : MF T n (a_st m 242 13 (nI p')) p' k q := ⟨h.1.fr (Fr.rf.st (by simp [fM])), a_st_self, by rw [a_st_no (by decide)]; exact h.2.2.1, h.2.2.2.1, by rw [a_st_no (by decide)]; exact h.2.2.2.2⟩
theorem MF.op {m : aM} {p q : Nat} {k : Int32} (h : MF T n m p k q) (x : Int32) : MF T n (a_st m 242 14 x) p k q := ⟨h.1.fr (Fr.rf.st (by simp [fM])), by rw [a_st_no (by decide)]; exact h.2.1, by rw [a_st_no (by decide)]; exact h.2.2.1, h.2.2.2.1, by rw [a_st_no (by decide)]; exact h.2.2.2.2⟩
theorem MF.ne {m : aM} {p q : Nat} {k : Int32} (h : MF T n m p k q) : ¬ m 242 15 = 0 := by rw [h.2.2.1]; exact h.2.2.2.1
theorem m_wrong {k : Int32} {q : Nat} {m : aM} (h0 : m 242 15 = 0) : f_Mod_wrongAt k (nI q) m = some (0, a_st (a_st m 242 15 k) 242 16 (nI q)) := by
  unfold f_Mod_wrongAt
  rw [if_pos h0]
  rfl
theorem m_wrongF {k k' : Int32} {q p : Nat} {x : Int32} {m : aM} (h : MF T n m p k q) : f_Mod_wrongAt k' x m = some (0, m) := by
  unfold f_Mod_wrongAt
  rw [if_neg h.ne]
theorem MS.wr {m : aM} {p o : Nat} (h : MS T n s a b ft m p o) {k : Int32} (hk : k ≠ 0) (q : Nat) : MF T n (a_st (a_st m 242 15 k) 242 16 (nI q)) p k q := ⟨h.1.fr ((Fr.rf.st (by simp [fM])).st (by simp [fM])), by rw [a_st_no (by decide), a_st_no (by decide)]; exact h.2.1, by rw [a_st_no (by decide), a_st_self], hk, a_st_self⟩
theorem wr_fr {m : aM} {k x : Int32} : Fr fM m (a_st (a_st m 242 15 k) 242 16 x) := (Fr.rf.st (by simp [fM])).st (by simp [fM])
theorem at_fr {m : aM} {x : Int32} : Fr fM m (a_st m 242 13 x) := Fr.rf.st (by simp [fM])
theorem op_fr {m : aM} {x : Int32} : Fr fM m (a_st m 242 14 x) := Fr.rf.st (by simp [fM])
theorem m_blanksS {m : aM} {p o F : Nat} (h : MS T n s a b ft m p o) (hF : 5000 ≤ F) : f_Mod_blanks F m = some (0, a_st m 242 13 (nI (kp T p))) ∧ MS T n s a b ft (a_st m 242 13 (nI (kp T p))) (kp T p) o := ⟨m_blanks h.1 h.2.1 (by have := h.n4; have := h.2.2.2.2.2.1; omega) (by omega), h.at (kp_le h.1.1 h.2.2.2.2.2.1)⟩
theorem m_blanksF {m : aM} {p q F E : Nat} {k : Int32} (h : MF T n m p k q) (hF : 5000 ≤ F) (hp : p ≤ E) (h4 : 400 ≤ E) (hE : E ≤ 4000) : f_Mod_blanks F m = some (0, a_st m 242 13 (nI (kp T p))) ∧ MF T n (a_st m 242 13 (nI (kp T p))) (kp T p) k q ∧ kp T p ≤ E := ⟨m_blanks h.1 h.2.1 (by omega) (by omega), h.at _, kp_leB h.1.1 hp (by have := h.1.1.1; omega)⟩
theorem m_signF {m : aM} {p q F E : Nat} {k c : Int32} (h : MF T n m p k q) (hF : 5000 ≤ F) (hp : p ≤ E) (h4 : 400 ≤ E) (hE : E ≤ 4000) : MZ T n false m (f_Mod_sign F c m) k q (E + 1) := by
  obtain ⟨e, h1, h2⟩ := m_blanksF h hF hp h4 hE
  unfold f_Mod_sign
  simp only [e, o_b2_some, a_st_self, m_byte h1.1 (show kp T p < 2 ^ 31 by omega), o_b_some, o_let_eq, nI_1]
  by_cases c1 : T (kp T p) = c
  · simp only [if_pos c1]
    exact ⟨_, _, kp T p + 1, rfl, h1.at _, by omega, at_fr.tr at_fr, fun h => by simp at h⟩
  · simp only [if_neg c1, m_wrongF h1, o_b2_some]
    exact ⟨_, _, kp T p, rfl, h1, by omega, at_fr, fun h => by simp at h⟩
theorem m_sign {m : aM} {p o F : Nat} {c : Int32} (h : MS T n s a b ft m p o) (hF : 5000 ≤ F) (hc : c ≠ -1) : MO T n s a b ft ok (fun (_ : Unit) _ => True) o 400 false m (f_Mod_sign F c m) (pSg T c p) := by
  obtain ⟨e, h1⟩ := m_blanksS h hF
  have g := h1.2.2.2.2.2.1
  have h4 := h.n4
  unfold f_Mod_sign pSg
  simp only [e, o_b2_some, a_st_self, m_byte h1.1 (show kp T p < 2 ^ 31 by omega), o_b_some, o_let_eq, nI_1]
  by_cases c1 : T (kp T p) = c
  · simp only [if_pos c1]
    exact MO.ret trivial (h1.at (by have := h.1.1.lt c1 hc; omega)) (at_fr.tr at_fr) (fun h => by simp at h)
  · simp only [if_neg c1, m_wrong h1.2.2.2.1, o_b2_some]
    exact MO.fau ⟨_, _, kp T p, rfl, h1.wr (by decide) _, by omega, at_fr.tr wr_fr, fun h => by simp at h⟩
theorem pSg_lt {c : Int32} {p q : Nat} {z : Unit} (e : pSg T c p = .inr (q, z)) : p < q := by
  unfold pSg at e
  have g := kp_ge (T := T) (p := p)
  by_cases c1 : T (kp T p) = c
  · rw [if_pos c1] at e
    simp only [Sum.inr.injEq, Prod.mk.injEq] at e
    omega
  · rw [if_neg c1] at e
    simp at e
theorem m_opens {m : aM} {p o x : Nat} (h : MS T n s a b ft m p o) (ho : o ≤ 6) (hx : p + x ≤ n) : (o < 6 → f_Mod_opens (nI x) m = some (0, a_st (a_st m 242 14 (nI (o + 1))) 242 13 (nI (p + x))) ∧ MS T n s a b ft (a_st (a_st m 242 14 (nI (o + 1))) 242 13 (nI (p + x))) (p + x) (o + 1)) ∧ (¬ o < 6 → ∃ m', f_Mod_opens (nI x) m = some (0, m') ∧ MF T n m' (p + x) 3 p ∧ Fr fM m m') := by
  unfold f_Mod_opens b_Mod_opens_18
  simp only [o_let_eq, h.2.2.1]
  refine ⟨fun c => ?_, fun c => ?_⟩
  · have e : ¬ nI o = 6 := fun q => by have := (nI_eq (a := o) (b := 6) (by omega) (by decide)).mp q; omega
    simp only [if_neg e]
    rw [a_st_no (by decide), h.2.1, nI_add, nI_1]
    exact ⟨rfl, (h.op (o + 1)).at hx⟩
  · obtain rfl : o = 6 := by omega
    simp only [if_pos (show nI 6 = 6 from rfl), h.2.1, m_wrong h.2.2.2.1, o_b2_some]
    have e2 : a_st (a_st (a_st m 242 15 3) 242 16 (nI p)) 242 14 (a_st (a_st m 242 15 3) 242 16 (nI p) 242 14 + 1) 242 13 = nI p := by rw [a_st_no (by decide), a_st_no (by decide), a_st_no (by decide), h.2.1]
    rw [e2, nI_add]
    exact ⟨_, rfl, ((h.wr (k := 3) (by decide) p).op _).at _, (wr_fr.tr op_fr).tr at_fr⟩
theorem m_skipW_aux {F : Nat} : ∀ (k q N : Nat) (m : aM), TM T n m → m 242 13 = nI q → q + k ≤ 4000 → (∀ i, i < k → tS (T (q + i))) → ¬ tS (T (q + k)) → k < N → ll_Mod_skipWord_0 F N m = some (0, a_st m 242 13 (nI (q + k)))
  | 0, q, N, m, h, hq, hb, h1, h2, hN => by
    obtain ⟨N, rfl⟩ : ∃ k, N = k + 1 := ⟨N - 1, by omega⟩
    show lb_Mod_skipWord_0 F (ll_Mod_skipWord_0 F N) m = _
    unfold lb_Mod_skipWord_0
    simp only [hq, m_byte h (show q < 2 ^ 31 by omega), o_b_some, m_small, if_neg (show ¬ tS (T q) from h2), if_true, Nat.add_zero, a_st_id hq]
  | k + 1, q, N, m, h, hq, hb, h1, h2, hN => by
    obtain ⟨N, rfl⟩ : ∃ k, N = k + 1 := ⟨N - 1, by omega⟩
    show lb_Mod_skipWord_0 F (ll_Mod_skipWord_0 F N) m = _
    unfold lb_Mod_skipWord_0
    simp only [hq, m_byte h (show q < 2 ^ 31 by omega), o_b_some, m_small, if_pos (show tS (T q) from h1 0 (by omega)), show ¬ (1 : Int32) = 0 by decide, if_false, o_let_eq, nI_1]
    rw [m_skipW_aux k (q + 1) N _ (h.fr at_fr) a_st_self (by omega) (fun i hi => by have := h1 (i + 1) (by omega); rwa [show q + 1 + i = q + (i + 1) by omega]) (by rwa [show q + 1 + k = q + (k + 1) by omega]) (by omega), a_st_st, show q + 1 + k = q + (k + 1) by omega]
theorem tW_small : ∀ (w : List Int32) (q : Nat), (∀ c ∈ w, tS c) → tW T q w = true → (∀ i, i < w.length → tS (T (q + i))) ∧ ¬ tS (T (q + w.length))
  | [], q, _, e => ⟨fun i hi => absurd hi (by simp), by rw [List.length_nil, Nat.add_zero]; intro hs; unfold tW at e; rw [decide_eq_true hs] at e; exact absurd e (by decide)⟩
  | c :: w, q, hw, e => by
    simp only [tW, Bool.and_eq_true, decide_eq_true_eq] at e
    have := tW_small w (q + 1) (fun x hx => hw x (List.mem_cons_of_mem _ hx)) e.2
    refine ⟨fun i hi => ?_, by rw [List.length_cons, show q + (w.length + 1) = q + 1 + w.length by omega]; exact this.2⟩
    match i, hi with
    | 0, _ => rw [Nat.add_zero, e.1]; exact hw c (List.mem_cons_self ..)
    | i + 1, hi => rw [show q + (i + 1) = q + 1 + i by omega]; exact this.1 i (by simpa using hi)
theorem m_skipW {m : aM} {q F : Nat} {w : List Int32} (h : TM T n m) (hq : m 242 13 = nI q) (hb : q ≤ 3000) (hw : ∀ c ∈ w, tS c) (hl : w.length < 100) (e : tW T q w = true) (hF : 5000 ≤ F) : f_Mod_skipWord F m = some (0, a_st m 242 13 (nI (q + w.length))) := m_skipW_aux w.length q F m h hq (by omega) (tW_small w q hw e).1 (tW_small w q hw e).2 (by omega)
/-- numbers -/
theorem tD_nat {x : Int32} (h : tD x) : ∃ t : Nat, x = nI t ∧ 48 ≤ t ∧ t ≤ 57 := by
  have h1 := h.1
  have h2 := h.2
  rw [i_le] at h1 h2
  have c1 : (48 : Int32).toInt = 48 := rfl
  have c2 : (57 : Int32).toInt = 57 := rfl
  exact ⟨x.toInt.toNat, by rw [i_eq, nI_toInt (by omega)]; omega, by omega, by omega⟩
theorem m_num_aux {F q : Nat} : ∀ (d p u v N : Nat) (m : aM), TM T n m → m 242 13 = nI p → p ≤ n → n < d + p → d < N → (v ≤ 9999 ∧ u = v ∨ v = 10000 ∧ 10000 ≤ u ∧ u ≤ 100000) →
    ∃ u' v', nm T d (nI v) p = (nI v', (nm T d (nI v) p).2) ∧ (v' ≤ 9999 ∧ u' = v' ∨ v' = 10000 ∧ 10000 ≤ u' ∧ u' ≤ 100000) ∧ ll_Mod_number_7 F N (nI q) (nI u) m = (if u' ≤ 9999 then some (nI u', a_st m 242 13 (nI (nm T d (nI v) p).2)) else o_b2 (f_Mod_wrongAt 2 (nI q) (a_st m 242 13 (nI (nm T d (nI v) p).2))) fun y3 m4 => some (nI u', m4))
  | 0, p, u, v, N, m, h, hp, hn, hd, hN, hr => by omega
  | d + 1, p, u, v, N, m, h, hp, hn, hd, hN, hr => by
    obtain ⟨N, rfl⟩ : ∃ k, N = k + 1 := ⟨N - 1, by omega⟩
    have h4 := h.1.1
    have e0 : ll_Mod_number_7 F (N + 1) (nI q) (nI u) m = lb_Mod_number_7 F (ll_Mod_number_7 F N) (nI q) (nI u) m := rfl
    rw [e0]
    unfold lb_Mod_number_7 b_Mod_number_50 nm
    simp only [hp, m_byte h (show p < 2 ^ 31 by omega), o_b_some, o_let_eq, m_digit]
    by_cases c : tD (T p)
    · obtain ⟨t, et, t1, t2⟩ := tD_nat c
      have hl := h.1.dig c
      rw [et] at c
      simp only [et, if_pos c, show ¬ (1 : Int32) = 0 by decide, if_false, nI_1]
      have k1 : ∀ w, (10 : Int32) * nI w + nI t - 48 = nI (10 * w + t - 48) := fun w => by
        rw [show (10 : Int32) = nI 10 from rfl, pk_mul, nI_add, show (48 : Int32) = nI 48 from rfl, pk_sub (by omega)]
      rw [k1, k1]
      have ev : (if (10000 : Int32) < nI (10 * v + t - 48) then 10000 else nI (10 * v + t - 48)) = nI (if 10000 < 10 * v + t - 48 then 10000 else 10 * v + t - 48) := by
        by_cases z : 10000 < 10 * v + t - 48
        · rw [if_pos z, if_pos (show (10000 : Int32) < nI (10 * v + t - 48) from nI_lt (a := 10000) z (by omega))]; rfl
        · rw [if_neg z, if_neg (show ¬ (10000 : Int32) < nI (10 * v + t - 48) from nI_nlt (a := 10000) (by omega) (by omega))]
      have eu : (if nI (10 * u + t - 48) ≤ 100000 then ll_Mod_number_7 F N (nI q) (nI (10 * u + t - 48)) (a_st m 242 13 (nI (p + 1))) else ll_Mod_number_7 F N (nI q) 100000 (a_st m 242 13 (nI (p + 1)))) = ll_Mod_number_7 F N (nI q) (nI (if 10 * u + t - 48 ≤ 100000 then 10 * u + t - 48 else 100000)) (a_st m 242 13 (nI (p + 1))) := by
        by_cases z : 10 * u + t - 48 ≤ 100000
        · rw [if_pos z, if_pos (show nI (10 * u + t - 48) ≤ 100000 from nI_le (b := 100000) z (by decide))]
        · rw [if_neg z, if_neg (show ¬ nI (10 * u + t - 48) ≤ 100000 from nI_ge (a := 100000) (by omega) (by omega))]; rfl
      rw [ev, eu]
      obtain ⟨u', v', g1, g2, g3⟩ := m_num_aux (q := q) d (p + 1) (if 10 * u + t - 48 ≤ 100000 then 10 * u + t - 48 else 100000) (if 10000 < 10 * v + t - 48 then 10000 else 10 * v + t - 48) N _ (h.fr at_fr) a_st_self (by omega) (by omega) (by omega) (by split <;> split <;> omega)
      exact ⟨u', v', g1, g2, by rw [g3, a_st_st]⟩
    · simp only [if_neg c, if_true, a_st_id hp]
      refine ⟨u, v, rfl, hr, ?_⟩
      by_cases z : u ≤ 9999
      · rw [if_pos z, if_pos (show nI u ≤ 9999 from nI_le (b := 9999) z (by decide))]
      · rw [if_neg z, if_neg (show ¬ nI u ≤ 9999 from nI_ge (a := 9999) (by omega) (by omega))]
theorem m_number {m : aM} {p o F : Nat} (h : MS T n s a b ft m p o) (hF : 5000 ≤ F) : MO T n s a b ft ok (fun (v : pV) x => x = v a b) o 400 false m (f_Mod_number F m) (if (nm T 400 0 p).1 ≤ 9999 then .inr ((nm T 400 0 p).2, fun _ _ => (nm T 400 0 p).1) else .inl (2, p)) := by
  have h4 := h.n4
  have hp := h.2.2.2.2.2.1
  have g2 := nm_le h.1.1 401 0 p hp
  have e9 : nm T 401 0 p = nm T 400 0 p := by
    have key : ∀ d v p, n ≤ d + p → nm T (d + 1) v p = nm T d v p := fun d => by
      induction d with
      | zero => intro v p hd; unfold nm; rw [if_neg (fun q => by have := h.1.1.dig q; omega)]
      | succ d ih =>
        intro v p hd
        unfold nm
        by_cases c : tD (T p)
        · rw [if_pos c, if_pos c]; exact ih _ _ (by omega)
        · rw [if_neg c, if_neg c]
    exact key 400 0 p (by omega)
  obtain ⟨u', v', g1, g3, g4⟩ := m_num_aux (F := F) (q := p) 401 p 0 0 F m h.1 h.2.1 hp (by omega) (by omega) (Or.inl ⟨by omega, rfl⟩)
  rw [show nI 0 = 0 from rfl, e9] at g1 g4
  rw [e9] at g2
  unfold f_Mod_number
  rw [h.2.1, g4]
  have g1' : (nm T 400 0 p).1 = nI v' := congrArg Prod.fst g1
  by_cases z : v' ≤ 9999
  · have : u' ≤ 9999 := by omega
    have hu : u' = v' := by omega
    rw [if_pos this, if_pos (by rw [g1']; exact nI_le (b := 9999) z (by decide)), hu]
    exact MO.ret g1'.symm (h.at g2) at_fr (fun h => by simp at h)
  · have : ¬ u' ≤ 9999 := by omega
    rw [if_neg this, if_neg (by rw [g1']; exact nI_ge (a := 9999) (by omega) (by omega)), m_wrong (h.at g2).2.2.2.1, o_b2_some]
    exact MO.fau ⟨_, _, _, rfl, (h.at g2).wr (by decide) p, by omega, at_fr.tr wr_fr, fun h => by simp at h⟩
end
