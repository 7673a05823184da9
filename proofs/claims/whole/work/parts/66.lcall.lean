/-! THE LENS OF BOTH -/
def stD : lS := (fun l => some (0, if l < 4 then (fun _ b => b l) else (fun a _ => a (l - 4))), fun _ => false, [], 0)
def ML (m : aM) (st : lS) : Prop := m 242 4 = nI st.2.2.2 ∧ m 242 6 = nI st.2.2.1.length ∧ (∃ w, m 242 7 = nI w ∧ kB w st.2.1) ∧ st.2.2.1.length ≤ 16 ∧
  ((m 242 12 = 0 ∧ st = stD) ∨ (m 242 12 = 1 ∧ ∃ T n, Tx T n ∧ okS T n st ∧ m 242 3 = nI n ∧ (∀ j, j < n → m 244 j = T j) ∧ (∀ l, l < 8 → (st.1 l = none → m 245 l = -1) ∧ ∀ x, st.1 l = some x → m 245 l = nI x.1) ∧ (∀ i x, st.2.2.1[i]? = some x → m 246 i = nI x.1)))
def LC (m : aM) (st : lS) : Prop := (∃ u, DS 2 m st u) ∧ ML m st
/-- where the lens lies -/
def fL : Nat → Nat → Prop := fun b j => b = 2 ∨ (3 ≤ b ∧ b ≤ 9) ∨ (b = 242 ∧ (j = 3 ∨ j = 4 ∨ j = 6 ∨ j = 7 ∨ j = 12)) ∨ (244 ≤ b ∧ b ≤ 246)
theorem LC.fr {m m' : aM} {st : lS} (h : LC m st) (f : ∀ b j, fL b j → m' b j = m b j) : LC m' st := by
  obtain ⟨⟨u, d⟩, h1, h2, ⟨w, h3, h3'⟩, h4, h5⟩ := h
  have e3 : ∀ j, m' 3 j = m 3 j := fun j => f _ _ (by unfold fL; omega)
  refine ⟨⟨u, d.gr ((f _ _ (by unfold fL; omega)).trans d.1) (Nat.le_refl _) d.2.2.2.2.2.1 (fun j _ => ⟨f _ _ (by unfold fL; omega), f _ _ (by unfold fL; omega)⟩) (fun b j hb => f _ _ (by unfold fL; omega))⟩, (f _ _ (by unfold fL; omega)).trans h1, (f _ _ (by unfold fL; omega)).trans h2, ⟨w, (f _ _ (by unfold fL; omega)).trans h3, h3'⟩, h4, ?_⟩
  rcases h5 with ⟨a1, a2⟩ | ⟨a1, T, n, b1, b2, b3, b4, b5, b6⟩
  · exact Or.inl ⟨(f _ _ (by unfold fL; omega)).trans a1, a2⟩
  · refine Or.inr ⟨(f _ _ (by unfold fL; omega)).trans a1, T, n, b1, b2, (f _ _ (by unfold fL; omega)).trans b3, fun j hj => (f _ _ (by unfold fL; omega)).trans (b4 j hj), fun l hl => ?_, fun i x hx => (f _ _ (by unfold fL; omega)).trans (b6 i x hx)⟩
    rw [f 245 l (by unfold fL; omega)]
    exact b5 l hl
theorem c_empty1 {F : Nat} : ∀ (d i N : Nat) (m : aM), i + d = 4 → d < N → (∀ j, j < i → m 19 j = 0) → ∃ m1, ll_Len_empty_45 F N 12 (nI i) m = some (0, m1) ∧ (∀ j, j < 4 → m1 19 j = 0) ∧ Fr (fun b _ => b = 19) m m1
  | 0, i, N, m, hd, hN, h => by
    obtain ⟨N, rfl⟩ : ∃ k, N = k + 1 := ⟨N - 1, by omega⟩
    obtain rfl : i = 4 := by omega
    exact ⟨m, rfl, h, Fr.rf⟩
  | d + 1, i, N, m, hd, hN, h => by
    obtain ⟨N, rfl⟩ : ∃ k, N = k + 1 := ⟨N - 1, by omega⟩
    obtain ⟨m1, e, h1, f1⟩ := c_empty1 (F := F) d (i + 1) N (a_st m 19 i 0) (by omega) (by omega) (fun j hj => by
      by_cases c : j = i
      · rw [c, a_st_self]
      · rw [a_st_no (by omega)]; exact h j (by omega))
    refine ⟨m1, ?_, h1, Fr.sto f1 rfl⟩
    show lb_Len_empty_45 F (ll_Len_empty_45 F N) 12 (nI i) m = _
    unfold lb_Len_empty_45
    rw [if_neg (show ¬ (4 : Int32) ≤ nI i from nI_ge (b := 4) (by omega) (by decide)), inb_nI (show i < 4 by omega) (by decide), o_gd_t, o_let_eq, nI_clamp (by omega), nI_1]
    exact e
theorem c_empty2 {F : Nat} (hF : 10 ≤ F) : ∀ (d i N : Nat) (m : aM), i + d = 8 → d < N → (∀ j, j < i → m 15 j = 0 ∧ m 16 j = 0) → ∃ m1, ll_Len_empty_17 F N 12 (nI i) m = some (0, m1) ∧ (∀ j, j < 8 → m1 15 j = 0 ∧ m1 16 j = 0) ∧ (∀ j, j < 4 → m1 19 j = 0) ∧ Fr (fun b _ => b = 15 ∨ b = 16 ∨ b = 19) m m1
  | 0, i, N, m, hd, hN, h => by
    obtain ⟨N, rfl⟩ : ∃ k, N = k + 1 := ⟨N - 1, by omega⟩
    obtain rfl : i = 8 := by omega
    obtain ⟨m1, e, h1, f1⟩ := c_empty1 (F := F) 4 0 F m (by omega) (by omega) (fun j hj => by omega)
    exact ⟨m1, e, fun j hj => by rw [f1 15 j (by simp), f1 16 j (by simp)]; exact h j hj, h1, f1.mono (fun b j hb => by omega)⟩
  | d + 1, i, N, m, hd, hN, h => by
    obtain ⟨N, rfl⟩ : ∃ k, N = k + 1 := ⟨N - 1, by omega⟩
    obtain ⟨m1, e, h1, h2, f1⟩ := c_empty2 hF d (i + 1) N (a_st (a_st m 15 i 0) 16 i 0) (by omega) (by omega) (fun j hj => by
      by_cases c : j = i
      · rw [c, a_st_self, a_st_ne (by decide), a_st_self]; exact ⟨rfl, rfl⟩
      · rw [a_st_no (by omega), a_st_no (by omega), a_st_no (by omega), a_st_no (by omega)]; exact h j (by omega))
    refine ⟨m1, ?_, h1, h2, Fr.sto (Fr.sto f1 (by simp)) (by simp)⟩
    show lb_Len_empty_17 F (ll_Len_empty_17 F N) 12 (nI i) m = _
    unfold lb_Len_empty_17
    simp only [if_neg (show ¬ (8 : Int32) ≤ nI i from nI_ge (b := 8) (by omega) (by decide)), inb_nI (show i < 8 by omega) (by decide), o_gd_t, o_let_eq, nI_clamp (show i < 2 ^ 31 by omega), nI_1]
    exact e
theorem c_empty {F : Nat} {m : aM} (hF : 10 ≤ F) : ∃ m1, f_Len_empty F 12 m = some (0, m1) ∧ DS 12 m1 lS0 0 ∧ Fr (fun b _ => b = 12 ∨ b = 15 ∨ b = 16 ∨ b = 19) m m1 := by
  obtain ⟨m1, e, h1, h2, f1⟩ := c_empty2 hF 8 0 F (a_st (a_st (a_st m 12 2 0) 12 7 0) 12 10 0) (by omega) (by omega) (fun j hj => by omega)
  refine ⟨m1, e, ⟨?_, ?_, ?_, by decide, by decide, by decide, fun l hl => ⟨0, 0, (h1 l hl).1, (h1 l hl).2, Nat.le_refl _, fun _ => ⟨rfl, rfl⟩, fun x hx => by simp [lS0] at hx⟩, fun l hl => (h2 l hl).trans (by simp [lS0]), fun i x hx => by simp [lS0] at hx⟩, Fr.sto (Fr.sto (Fr.sto (f1.mono (fun b j hb => by omega)) (by simp)) (by simp)) (by simp)⟩
  · rw [f1 _ _ (by decide), a_st_no (by decide), a_st_no (by decide), a_st_self]; rfl
  · rw [f1 _ _ (by decide), a_st_self]; rfl
  · rw [f1 _ _ (by decide), a_st_no (by decide), a_st_self]; rfl
/-- the class reads a text -/
theorem c_lens {T : Nat → Int32} {n F : Nat} {m : aM} (hT : Tx T n) (hm : ∀ j, j < n → m 1 j = T j) (hF : 402 ≤ F) :
    (∀ k q, pLn T n 401 lS0 0 = .inl (k, q) → Fl2 (a_st m 11 1 (nI n)) (f_Rea_readLens F (nI n) m) k q) ∧ (∀ q st, pLn T n 401 lS0 0 = .inr (q, st) → Ok2 T n (a_st m 11 1 (nI n)) (f_Rea_readLens F (nI n) m) q st) := by
  have h4 := hT.1
  unfold f_Rea_readLens
  simp only [o_let_eq, if_neg (show ¬ (400 : Int32) < nI n from nI_nlt (a := 400) h4 (by decide))]
  obtain ⟨m1, e, d, f⟩ := c_empty (F := F) (m := a_st (a_st (a_st (a_st (a_st m 11 1 (nI n)) 11 2 0) 11 3 0) 11 6 0) 11 7 (-1)) (by omega)
  rw [e, o_b2_some]
  have f2 : Fr fR2 (a_st m 11 1 (nI n)) m1 := Fr.tr ((((Fr.rf.st (by simp [fR2])).st (by simp [fR2])).st (by simp [fR2])).st (by simp [fR2])) (f.mono (fun b j hb => by unfold fR2; omega))
  have rq : RQ T n m1 lS0 0 0 := by
    refine ⟨⟨hT, ?_, fun j hj => ?_⟩, ?_, ?_, d, Nat.zero_le _, Nat.le_refl _⟩
    · rw [f _ _ (by decide), a_st_no (by decide), a_st_no (by decide), a_st_no (by decide), a_st_no (by decide), a_st_self]
    · rw [f 1 j (by simp), a_st_ne (by decide), a_st_ne (by decide), a_st_ne (by decide), a_st_ne (by decide), a_st_ne (by decide)]; exact hm j hj
    · rw [f _ _ (by decide), a_st_no (by decide), a_st_no (by decide), a_st_no (by decide), a_st_self]; rfl
    · rw [f _ _ (by decide), a_st_no (by decide), a_st_no (by decide), a_st_self]; rfl
  have l := c_lens_l (T := T) (n := n) hF 401 0 F 0 0 lS0 m1 rfl (by omega) rq
  exact ⟨fun k q e => Fl2.tr f2 (l.1 k q e), fun q st e => (l.2 q st e).tr f2⟩
theorem a_sf_at {m : aM} {a : Nat} {f : Nat → Int32} : a_sf m a f a = f := by funext j; simp [a_sf]
theorem a_sf_ne {m : aM} {a b : Nat} {f : Nat → Int32} (h : b ≠ a) : a_sf m a f b = m b := by funext j; simp [a_sf, h]
theorem cpy0 {a b : Nat → Int32} {k j : Nat} (h : j < k) : va_cpy a b 0 0 k j = a j := by simp [va_cpy, h]
theorem c_become_l {F : Nat} {ks : Nat → Bool} : ∀ (d i N : Nat) (m : aM), i + d = 4 → d < N → (∀ j, j < 4 → m 19 j = if ks j = true then 1 else 0) → (∀ j, j < i → m 9 j = if ks j = true then 1 else 0) → ∃ m1, ll_Len_become_94 F N 2 12 (nI i) m = some (0, m1) ∧ (∀ j, j < 4 → m1 9 j = if ks j = true then 1 else 0) ∧ m1 2 2 = m 12 2 ∧ m1 2 7 = m 12 7 ∧ m1 2 10 = m 12 10 ∧ Fr (fun b j => b = 9 ∨ b = 2) m m1
  | 0, i, N, m, hd, hN, h, h' => by
    obtain ⟨N, rfl⟩ : ∃ k, N = k + 1 := ⟨N - 1, by omega⟩
    obtain rfl : i = 4 := by omega
    refine ⟨_, rfl, fun j hj => ?_, ?_, ?_, ?_, ((Fr.rf.st (by simp)).st (by simp)).st (by simp)⟩
    · rw [a_st_ne (by decide), a_st_ne (by decide), a_st_ne (by decide)]; exact h' j hj
    · rw [a_st_no (by decide), a_st_no (by decide), a_st_self]
    · rw [a_st_no (by decide), a_st_self, a_st_ne (by decide)]
    · rw [a_st_self, a_st_ne (by decide), a_st_ne (by decide)]
  | d + 1, i, N, m, hd, hN, h, h' => by
    obtain ⟨N, rfl⟩ : ∃ k, N = k + 1 := ⟨N - 1, by omega⟩
    obtain ⟨m1, e, h1, h2, h3, h4, f1⟩ := c_become_l (F := F) (ks := ks) d (i + 1) N (a_st m 9 i (m 19 i)) (by omega) (by omega) (fun j hj => by rw [a_st_ne (by decide)]; exact h j hj) (fun j hj => by
      by_cases c : j = i
      · rw [c, a_st_self]; exact h i (by omega)
      · rw [a_st_no (by omega)]; exact h' j (by omega))
    refine ⟨m1, ?_, h1, by rw [h2, a_st_ne (by decide)], by rw [h3, a_st_ne (by decide)], by rw [h4, a_st_ne (by decide)], Fr.sto f1 (by simp)⟩
    show lb_Len_become_94 F (ll_Len_become_94 F N) 2 12 (nI i) m = _
    unfold lb_Len_become_94
    have hb : isb (m 19 i) = true := by rw [h i (by omega)]; by_cases c : ks i = true <;> simp [c, isb]
    simp only [if_neg (show ¬ (4 : Int32) ≤ nI i from nI_ge (b := 4) (by omega) (by decide)), inb_nI (show i < 4 by omega) (by decide), o_gd_t, o_let_eq, nI_clamp (show i < 2 ^ 31 by omega), nI_1, hb]
    exact e
theorem c_become {F : Nat} {m : aM} {st : lS} {u : Nat} (h : DS 12 m st u) (hF : 10 ≤ F) : ∃ m1, f_Len_become F 2 12 m = some (0, m1) ∧ DS 2 m1 st u ∧ Fr (fun b j => b = 2 ∨ (3 ≤ b ∧ b ≤ 9)) m m1 := by
  unfold f_Len_become
  simp only [show cpg 0 0 400 400 400 = true by decide, show cpg 0 0 8 8 8 = true by decide, show cpg 0 0 16 16 16 = true by decide, o_gd_t, o_let_eq, show (0 : Int32).toNatClampNeg = 0 from rfl, show (400 : Int32).toNatClampNeg = 400 from rfl, show (8 : Int32).toNatClampNeg = 8 from rfl, show (16 : Int32).toNatClampNeg = 16 from rfl]
  generalize hm : (a_sf _ (2 + 6) _ : aM) = m6
  have q : (∀ j, j < 400 → m6 3 j = m 13 j ∧ m6 4 j = m 14 j) ∧ (∀ j, j < 8 → m6 5 j = m 15 j ∧ m6 6 j = m 16 j) ∧ (∀ j, j < 16 → m6 7 j = m 17 j ∧ m6 8 j = m 18 j) ∧ Fr (fun b j => 3 ≤ b ∧ b ≤ 8) m m6 := by
    rw [← hm]
    refine ⟨fun j hj => ?_, fun j hj => ?_, fun j hj => ?_, fun b j hb => ?_⟩
    · simp [a_sf, cpy0 hj]
    · simp [a_sf, cpy0 hj]
    · simp [a_sf, cpy0 hj]
    · have : b ≠ 3 ∧ b ≠ 4 ∧ b ≠ 5 ∧ b ≠ 6 ∧ b ≠ 7 ∧ b ≠ 8 := by omega
      simp [a_sf, this]
  obtain ⟨q1, q2, q3, q4⟩ := q
  obtain ⟨a1, a2, a3, a4, a5, a6, a7, a8, a9⟩ := h
  obtain ⟨m1, e, h1, h2, h3, h4, f1⟩ := c_become_l (F := F) (ks := st.2.1) 4 0 F m6 (by omega) (by omega) (fun j hj => by rw [q4 19 j (by simp)]; exact a8 j hj) (fun j hj => by omega)
  have g : ∀ b j, 3 ≤ b → b ≤ 8 → m1 b j = m6 b j := fun b j b1 b2 => f1 b j (by simp; omega)
  refine ⟨m1, e, ⟨by rw [h2, q4 12 2 (by simp)]; exact a1, by rw [h4, q4 12 10 (by simp)]; exact a2, by rw [h3, q4 12 7 (by simp)]; exact a3, a4, a5, a6, fun l hl => ?_, h1, fun i x hx => ?_⟩, (q4.mono (fun b j hb => by omega)).tr (f1.mono (fun b j hb => by omega))⟩
  · obtain ⟨s, t, b1, b2, b3, b4, b5⟩ := a7 l hl
    exact ⟨s, t, by rw [g 5 l (by omega) (by omega), (q2 l hl).1]; exact b1, by rw [g 6 l (by omega) (by omega), (q2 l hl).2]; exact b2, b3, b4, fun x hx => ⟨(b5 x hx).1, (b5 x hx).2.cg (fun j j1 j2 => by
      show m1 3 j = m 13 j ∧ m1 4 j = m 14 j
      rw [g 3 j (by omega) (by omega), g 4 j (by omega) (by omega)]
      exact q1 j (by omega))⟩⟩
  · obtain ⟨s, t, b1, b2, b3, b4, b5⟩ := a9 i x hx
    have hi : i < 16 := by
      rcases Nat.lt_or_ge i st.2.2.1.length with z | z
      · omega
      · rw [List.getElem?_eq_none z] at hx; simp at hx
    exact ⟨s, t, by rw [g 7 i (by omega) (by omega), (q3 i hi).1]; exact b1, by rw [g 8 i (by omega) (by omega), (q3 i hi).2]; exact b2, b3, b4, b5.cg (fun j j1 j2 => by
      show m1 3 j = m 13 j ∧ m1 4 j = m 14 j
      rw [g 3 j (by omega) (by omega), g 4 j (by omega) (by omega)]
      exact q1 j (by omega))⟩
