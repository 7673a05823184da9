/-! A LENS AS IT IS READ: clauses -/
abbrev lS : Type := (Nat → Option (Nat × pV)) × (Nat → Bool) × List (Nat × pV) × Nat
def lS0 : lS := (fun _ => none, fun _ => false, [], 0)
def lSk (st : lS) (l : Nat) : lS := (st.1, fun j => if j = l then true else st.2.1 j, st.2.2.1, st.2.2.2 + 1)
def lSw (st : lS) (x : Nat × pV) : lS := (st.1, st.2.1, st.2.2.1 ++ [x], st.2.2.2 + 1)
def lSl (st : lS) (l : Nat) (x : Nat × pV) : lS := (fun j => if j = l then some x else st.1 j, st.2.1, st.2.2.1, st.2.2.2 + 1)
def pClk (T : Nat → Int32) (st : lS) (q : Nat) : pO lS := if tL T (kp T (q + 4)) = -1 ∨ ¬ tL T (kp T (q + 4)) < 4 then .inl (1, kp T (q + 4)) else pB (pSg T 59 (kp T (q + 4) + 1)) fun p _ => .inr (p, lSk st (tL T (kp T (q + 4))).toNatClampNeg)
def pClw (T : Nat → Int32) (st : lS) (q : Nat) : pO lS := pB (pC T (pLv T false 6).2 (q + 3)) fun p v => pB (pSg T 59 p) fun p' _ => .inr (p', lSw st (q + 3, v))
def pCll (T : Nat → Int32) (st : lS) (q : Nat) : pO lS := pB (pSg T 61 (q + 1)) fun p1 _ => pB ((pLv T (!decide (tL T q < 4)) 6).1 p1) fun p2 v => pB (pSg T 59 p2) fun p3 _ => .inr (p3, lSl st (tL T q).toNatClampNeg (p1, v))
def pCl (T : Nat → Int32) (st : lS) (q : Nat) : pO lS :=
  if tW T q wKeep = true then (if st.2.2.2 < 16 then pClk T st q else .inl (3, q))
  else if tW T q wLaw = true then (if st.2.2.2 < 16 then pClw T st q else .inl (3, q))
  else if tL T q = -1 then .inl (1, q)
  else if st.2.2.2 < 16 then pCll T st q else .inl (3, q)
def pLn (T : Nat → Int32) (n : Nat) : Nat → lS → Nat → pO lS
  | 0, _, p => .inl (1, p)
  | N + 1, st, p => if kp T p < n then pB (pCl T st (kp T p)) fun p' st' => pLn T n N st' p' else .inr (kp T p, st)
theorem tW_tL {T : Nat → Int32} {q : Nat} {c d : Int32} {w : List Int32} (h : tW T q (c :: d :: w) = true) (hd : tS d) : tL T q = -1 := by
  simp only [tW, Bool.and_eq_true, decide_eq_true_eq] at h
  unfold tL
  rw [h.2.1, if_pos (Or.inl hd)]
/-! the class's side -/
def DS (a0 : Nat) (m : aM) (st : lS) (u : Nat) : Prop :=
  m a0 2 = nI u ∧ m a0 10 = nI st.2.2.2 ∧ m a0 7 = nI st.2.2.1.length ∧ st.2.2.2 ≤ 16 ∧ st.2.2.1.length ≤ st.2.2.2 ∧ u ≤ 400 ∧
  (∀ l, l < 8 → ∃ s e, m (a0 + 3) l = nI s ∧ m (a0 + 4) l = nI e ∧ e ≤ u ∧ (st.1 l = none → s = 0 ∧ e = 0) ∧ ∀ x, st.1 l = some x → s < e ∧ Cd (m (a0 + 1)) (m (a0 + 2)) s e 40 x.2) ∧
  (∀ l, l < 4 → m (a0 + 7) l = if st.2.1 l = true then 1 else 0) ∧
  (∀ i x, st.2.2.1[i]? = some x → ∃ s e, m (a0 + 5) i = nI s ∧ m (a0 + 6) i = nI e ∧ s < e ∧ e ≤ u ∧ Cd (m (a0 + 1)) (m (a0 + 2)) s e 40 x.2)
def fR2 : Nat → Nat → Prop := fun b j => (b = 11 ∧ (j = 2 ∨ j = 3 ∨ j = 4 ∨ j = 6 ∨ j = 7)) ∨ (12 ≤ b ∧ b ≤ 20)
theorem fR_2 : ∀ b j, fR b j → fR2 b j := fun b j h => by
  unfold fR at h
  unfold fR2
  omega
def Fl2 (m : aM) (r : Option (Int32 × aM)) (k : Int32) (q : Nat) : Prop := ∃ m', r = some (0, m') ∧ m' 11 6 = k ∧ m' 11 7 = nI q ∧ Fr fR2 m m'
theorem Fl.to2 {m : aM} {r : Option (Int32 × aM)} {k : Int32} {q : Nat} (h : Fl m r k q) : Fl2 m r k q := by
  obtain ⟨m', e, h1, h2, h3⟩ := h
  exact ⟨m', e, h1, h2, h3.mono fR_2⟩
theorem Fl2.tr {m m1 : aM} {r : Option (Int32 × aM)} {k : Int32} {q : Nat} (f : Fr fR2 m m1) (h : Fl2 m1 r k q) : Fl2 m r k q := by
  obtain ⟨m', e, h1, h2, h3⟩ := h
  exact ⟨m', e, h1, h2, f.tr h3⟩
theorem Fl2.b {m : aM} {r : Option (Int32 × aM)} {k : Int32} {q : Nat} {c : Int32 → aM → Option (Int32 × aM)} (h : Fl2 m r k q) : Fl2 m (o_b2 r fun y m2 => if y = 0 then some (0, m2) else c y m2) k q := by
  obtain ⟨m', e, h1, h2, h3⟩ := h
  exact ⟨m', by rw [e]; simp [o_b2_some], h1, h2, h3⟩
/-- what was read stays while more is read -/
theorem DS.gr {a0 : Nat} {m m' : aM} {st : lS} {u u' : Nat} (h : DS a0 m st u) (h2 : m' a0 2 = nI u') (hu : u ≤ u') (h4 : u' ≤ 400) (hs : ∀ j, j < u → m' (a0 + 1) j = m (a0 + 1) j ∧ m' (a0 + 2) j = m (a0 + 2) j) (hf : ∀ b j, (a0 + 3 ≤ b ∧ b ≤ a0 + 7 ∨ b = a0 ∧ (j = 7 ∨ j = 10)) → m' b j = m b j) : DS a0 m' st u' := by
  obtain ⟨a1, a2, a3, a4, a5, a6, a7, a8, a9⟩ := h
  refine ⟨h2, (hf _ _ (by omega)).trans a2, (hf _ _ (by omega)).trans a3, a4, a5, h4, fun l hl => ?_, fun l hl => (hf _ _ (by omega)).trans (a8 l hl), fun i x hx => ?_⟩
  · obtain ⟨s, e, b1, b2, b3, b4, b5⟩ := a7 l hl
    exact ⟨s, e, (hf _ _ (by omega)).trans b1, (hf _ _ (by omega)).trans b2, by omega, b4, fun x hx => ⟨(b5 x hx).1, (b5 x hx).2.cg (fun j j1 j2 => hs j (by omega))⟩⟩
  · obtain ⟨s, e, b1, b2, b3, b4, b5⟩ := a9 i x hx
    exact ⟨s, e, (hf _ _ (by omega)).trans b1, (hf _ _ (by omega)).trans b2, b3, by omega, b5.cg (fun j j1 j2 => hs j (by omega))⟩
theorem c_endLaw {m : aM} {k u u' : Nat} (h7 : m 12 7 = nI k) (hk : k < 16) (h2 : m 12 2 = nI u') : f_Len_endLaw 12 (nI u) m = some (0, a_st (a_st (a_st m 17 k (nI u)) 18 k (nI u')) 12 7 (nI (k + 1))) := by
  unfold f_Len_endLaw
  simp only [h7, if_neg (show ¬ (16 : Int32) ≤ nI k from nI_ge (b := 16) hk (by decide)), inb_nI hk (by decide), o_gd_t, o_let_eq, nI_clamp (show k < 2 ^ 31 by omega), a_rd]
  simp [h7, h2, inb_nI hk (by decide), o_gd_t, nI_clamp (show k < 2 ^ 31 by omega), nI_1]
theorem c_endLetter {m : aM} {l u u' : Nat} (hl : l < 8) (h2 : m 12 2 = nI u') : f_Len_endLetter 12 (nI l) (nI u) m = some (0, a_st (a_st m 15 l (nI u)) 16 l (nI u')) := by
  unfold f_Len_endLetter
  simp only [if_neg (nI_pos (show l < 2 ^ 31 by omega)), if_neg (show ¬ (8 : Int32) ≤ nI l from nI_ge (b := 8) hl (by decide)), inb_nI hl (by decide), o_gd_t, o_let_eq, nI_clamp (show l < 2 ^ 31 by omega), a_rd]
  simp [h2]
theorem c_keepLetter {m : aM} {l : Nat} (hl : l < 4) : f_Len_keepLetter 12 (nI l) m = some (0, a_st m 19 l 1) := by
  unfold f_Len_keepLetter
  simp only [if_neg (nI_pos (show l < 2 ^ 31 by omega)), if_neg (show ¬ (4 : Int32) ≤ nI l from nI_ge (b := 4) hl (by decide)), inb_nI hl (by decide), o_gd_t, o_let_eq, nI_clamp (show l < 2 ^ 31 by omega)]
/-- the reader between two clauses -/
def RQ (T : Nat → Int32) (n : Nat) (m : aM) (st : lS) (p u : Nat) : Prop := TC T n m ∧ m 11 2 = nI p ∧ m 11 3 = nI 0 ∧ DS 12 m st u ∧ p ≤ n ∧ u ≤ p
def Ok2 (T : Nat → Int32) (n : Nat) (m : aM) (r : Option (Int32 × aM)) (p : Nat) (st : lS) : Prop := ∃ m' u', r = some (1, m') ∧ RQ T n m' st p u' ∧ Fr fR2 m m'
theorem Ok2.tr {T : Nat → Int32} {n : Nat} {m m1 : aM} {r : Option (Int32 × aM)} {p : Nat} {st : lS} (f : Fr fR2 m m1) (h : Ok2 T n m1 r p st) : Ok2 T n m r p st := by
  obtain ⟨m', u', e, h1, h2⟩ := h
  exact ⟨m', u', e, h1, f.tr h2⟩
/-- the sign that ends a clause -/
theorem c_end {T : Nat → Int32} {n p u F : Nat} {m : aM} {st : lS} (h : RQ T n m st p u) (hF : 401 ≤ F) :
    (∀ k q, pSg T 59 p = .inl (k, q) → Fl2 m (o_b2 (f_Rea_readSign F 59 m) fun y m2 => if y = 0 then some (0, m2) else some (1, m2)) k q) ∧ (∀ q z, pSg T 59 p = .inr (q, z) → p < q ∧ Ok2 T n m (o_b2 (f_Rea_readSign F 59 m) fun y m2 => if y = 0 then some (0, m2) else some (1, m2)) q st) := by
  obtain ⟨h1, h2, h3, h4, h5, h6⟩ := h
  have e : ∃ al : Bool, True := ⟨true, trivial⟩
  have key : ∀ c, f_Rea_isSign F c m = some (if T (kp T p) = c then 1 else 0, a_st m 11 2 (nI (kp T p))) := fun c => c_isSign h1 h2 h5 hF
  have g := kp_ge (T := T) (p := p)
  have gl := kp_le h1.1 h5
  unfold f_Rea_readSign pSg
  simp only [key, o_b2_some]
  by_cases c : T (kp T p) = 59
  · have hl := h1.1.lt c (by decide)
    simp only [if_pos c, show ¬ (1 : Int32) = 0 by decide, if_false, o_let_eq, a_st_self, nI_1, a_st_st, o_b2_some]
    refine ⟨fun k q e => by simp at e, fun q z e => ?_⟩
    simp only [Sum.inr.injEq, Prod.mk.injEq] at e
    obtain ⟨rfl, _⟩ := e
    refine ⟨by omega, _, u, rfl, ⟨h1.fr (Fr.rf.st (by simp [fR])), a_st_self, by rw [a_st_no (by decide)]; exact h3, h4.gr (by rw [a_st_no (by decide)]; exact h4.1) (Nat.le_refl _) h4.2.2.2.2.2.1 (fun j _ => ⟨by simp [a_rd], by simp [a_rd]⟩) (fun b j hb => by rw [a_st_no (by omega)]), by omega, by omega⟩, Fr.rf.st (by simp [fR2])⟩
  · simp only [if_neg c, if_true]
    refine ⟨fun k q e => ?_, fun q z e => by simp at e⟩
    simp only [Sum.inl.injEq, Prod.mk.injEq] at e
    obtain ⟨rfl, rfl⟩ := e
    exact Fl2.b (Fl.to2 (Fl.tr (Fr.rf.st (by simp [fR])) (Fl.mk2 a_st_self)))
theorem RQ.al {T : Nat → Int32} {n p u : Nat} {m : aM} {st : lS} (h : RQ T n m st p u) (al : Bool) : RS T n al (a_st m 11 4 (if al = true then 1 else 0)) p 0 u ∧ DS 12 (a_st m 11 4 (if al = true then 1 else 0)) st u := by
  obtain ⟨h1, h2, h3, h4, h5, h6⟩ := h
  refine ⟨⟨⟨h1.1, by rw [a_st_no (by decide)]; exact h1.2.1, fun j hj => by rw [a_st_no (by omega)]; exact h1.2.2 j hj⟩, by rw [a_st_no (by decide)]; exact h2, by rw [a_st_no (by decide)]; exact h3, a_st_self, by rw [a_st_no (by decide)]; exact h4.1, h5, h6⟩, h4.gr (by rw [a_st_no (by decide)]; exact h4.1) (Nat.le_refl _) h4.2.2.2.2.2.1 (fun j _ => ⟨by simp [a_rd], by simp [a_rd]⟩) (fun b j hb => by rw [a_st_no (by omega)])⟩
/-- more was read: the draft is the same but for the orders behind -/
theorem DS.rd {m m' : aM} {st : lS} {u u' : Nat} (h : DS 12 m st u) (h2 : m' 12 2 = nI u') (hu : u ≤ u') (h4 : u' ≤ 400) (hs : ∀ j, j < u → m' 13 j = m 13 j ∧ m' 14 j = m 14 j) (f : Fr fR m m') : DS 12 m' st u' := h.gr h2 hu h4 hs (fun b j hb => f b j (by unfold fR; omega))
