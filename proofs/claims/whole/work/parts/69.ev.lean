/-! THE LENS IN USE: the class -/
theorem DS.st {m m' : aM} {st : lS} {u : Nat} (h : DS 2 m st u) (f : ∀ b j, 2 ≤ b → b ≤ 9 → m' b j = m b j) : DS 2 m' st u := h.gr ((f _ _ (by omega) (by omega)).trans h.1) (Nat.le_refl _) h.2.2.2.2.2.1 (fun j _ => ⟨f _ _ (by omega) (by omega), f _ _ (by omega) (by omega)⟩) (fun b j hb => f _ _ (by omega) (by omega))
section
variable {F : Nat} {st : lS} {u : Nat}
/-- the orders of a letter, worked -/
theorem c_val {m : aM} {a3 a4 l : Nat} (d : DS 2 m st u) (hl : l < 8) (h3 : a3 ≠ 10) (h4 : a4 ≠ 10) (hF : 401 ≤ F) : ∃ s e, m 5 l = nI s ∧ m 6 l = nI e ∧ s < 2 ^ 31 ∧ e < 2 ^ 31 ∧ (st.1 l = none → s = 0 ∧ e = 0) ∧ (∀ x, st.1 l = some x → s < e) ∧ ∃ m', f_Len_work F 2 (nI s) (nI e) a3 a4 m = some (match st.1 l with | none => 0 | some x => x.2 (m a3) (m a4), m') ∧ Fr (fun b _ => b = 10) m m' := by
  obtain ⟨a1, a2, a3', a4', a5, a6, a7, a8, a9⟩ := d
  obtain ⟨s, e, b1, b2, b3, b4, b5⟩ := a7 l hl
  cases z : st.1 l with
  | none =>
    obtain ⟨rfl, rfl⟩ := b4 z
    exact ⟨0, 0, b1, b2, by omega, by omega, fun _ => ⟨rfl, rfl⟩, fun x hx => by simp at hx, m, work_0 (by omega), Fr.rf⟩
  | some x =>
    obtain ⟨b6, b7⟩ := b5 x z
    obtain ⟨m', e1, f1⟩ := work_cd (F := F) (a0 := 2) (a3 := a3) (a4 := a4) h3 h4 (K := 40) (by omega) hF (by omega) (fun j _ => ⟨rfl, rfl⟩) (by omega) b7
    exact ⟨s, e, b1, b2, by omega, by omega, fun h => by simp at h, fun _ _ => b6, m', e1, f1⟩
theorem c_toNew_l {a1 a2 : Nat} (h1 : 20 < a1) (h2 : 20 < a2) (h12 : a1 ≠ a2) (hF : 401 ≤ F) : ∀ (d i N : Nat) (m : aM), i + d = 4 → d < N → DS 2 m st u → (∀ j, j < i → m a2 j = sN st j (m a1)) → ∃ m', ll_Len_toNew_2 F N 2 a1 a2 (nI i) m = some (0, m') ∧ (∀ j, j < 4 → m' a2 j = sN st j (m a1)) ∧ Fr (fun b j => b = 10 ∨ (b = a2 ∧ j < 4)) m m'
  | 0, i, N, m, hd, hN, ds, h => by
    obtain ⟨N, rfl⟩ : ∃ k, N = k + 1 := ⟨N - 1, by omega⟩
    obtain rfl : i = 4 := by omega
    exact ⟨m, rfl, h, Fr.rf⟩
  | d + 1, i, N, m, hd, hN, ds, h => by
    obtain ⟨N, rfl⟩ : ∃ k, N = k + 1 := ⟨N - 1, by omega⟩
    obtain ⟨s, e, b1, b2, _, _, _, _, m2, e2, f2⟩ := c_val (F := F) (a3 := a1) (a4 := a1) ds (show 4 + i < 8 by omega) (by omega) (by omega) hF
    have q1 : a_st m2 a2 i (sN st i (m a1)) a1 = m a1 := by rw [a_st_ne (by omega)]; exact funext fun j => f2 _ _ (by omega)
    obtain ⟨m', e3, h3, f3⟩ := c_toNew_l h1 h2 h12 hF d (i + 1) N (a_st m2 a2 i (sN st i (m a1))) (by omega) (by omega) (ds.st (fun b j z1 z2 => by rw [a_st_ne (by omega), f2 b j (by omega)])) (fun j hj => by
      rw [q1]
      by_cases c : j = i
      · rw [c, a_st_self]
      · rw [a_st_no (by omega), f2 _ _ (by omega)]; exact h j (by omega))
    rw [q1] at h3
    refine ⟨m', ?_, h3, Fr.tr ((f2.mono (fun b j hb => Or.inl hb)).st (Or.inr ⟨rfl, by omega⟩)) f3⟩
    show lb_Len_toNew_2 F (ll_Len_toNew_2 F N) 2 a1 a2 (nI i) m = _
    unfold lb_Len_toNew_2
    have c4 : ¬ (4 : Int32) ≤ nI i := nI_ge (b := 4) (by omega) (by decide)
    simp only [if_neg c4, show (4 : Int32) + nI i = nI (4 + i) from nI_add 4 i, inb_nI (show 4 + i < 8 by omega) (by decide), o_gd_t, o_let_eq, nI_clamp (show 4 + i < 2 ^ 31 by omega), b1, b2, e2, o_b2_some, inb_nI (show i < 4 by omega) (by decide), nI_clamp (show i < 2 ^ 31 by omega), nI_1]
    exact e3
theorem c_toNew {m : aM} {a1 a2 : Nat} (ds : DS 2 m st u) (h1 : 20 < a1) (h2 : 20 < a2) (h12 : a1 ≠ a2) (hF : 401 ≤ F) : ∃ m', f_Len_toNew F 2 a1 a2 m = some (0, m') ∧ (∀ j, j < 4 → m' a2 j = sN st j (m a1)) ∧ Fr (fun b j => b = 10 ∨ (b = a2 ∧ j < 4)) m m' := c_toNew_l h1 h2 h12 hF 4 0 F m (by omega) (by omega) ds (fun j hj => by omega)
theorem c_toBeside_l {a1 a2 : Nat} (h2 : 20 < a2) (h12 : a1 ≠ a2) : ∀ (d i N : Nat) (m : aM), i + d = 4 → d < N → DS 2 m st u → (∀ j, j < i → m a2 j = sK st j (m a1)) → ∃ m', ll_Len_toBeside_2 F N 2 a1 a2 (nI i) m = some (0, m') ∧ (∀ j, j < 4 → m' a2 j = sK st j (m a1)) ∧ Fr (fun b j => b = a2 ∧ j < 4) m m'
  | 0, i, N, m, hd, hN, ds, h => by
    obtain ⟨N, rfl⟩ : ∃ k, N = k + 1 := ⟨N - 1, by omega⟩
    obtain rfl : i = 4 := by omega
    exact ⟨m, rfl, h, Fr.rf⟩
  | d + 1, i, N, m, hd, hN, ds, h => by
    obtain ⟨N, rfl⟩ : ∃ k, N = k + 1 := ⟨N - 1, by omega⟩
    have k9 : m 9 i = if st.2.1 i = true then 1 else 0 := ds.2.2.2.2.2.2.2.1 i (by omega)
    have q1 : a_st m a2 i (sK st i (m a1)) a1 = m a1 := a_st_ne h12
    obtain ⟨m', e3, h3, f3⟩ := c_toBeside_l h2 h12 d (i + 1) N (a_st m a2 i (sK st i (m a1))) (by omega) (by omega) (ds.st (fun b j z1 z2 => by rw [a_st_ne (by omega)])) (fun j hj => by
      rw [q1]
      by_cases c : j = i
      · rw [c, a_st_self]
      · rw [a_st_no (by omega)]; exact h j (by omega))
    rw [q1] at h3
    refine ⟨m', ?_, h3, Fr.sto f3 ⟨rfl, by omega⟩⟩
    show lb_Len_toBeside_2 F (ll_Len_toBeside_2 F N) 2 a1 a2 (nI i) m = _
    unfold lb_Len_toBeside_2 b_Len_toBeside_37
    have c4 : ¬ (4 : Int32) ≤ nI i := nI_ge (b := 4) (by omega) (by decide)
    simp only [if_neg c4, inb_nI (show i < 4 by omega) (by decide), o_gd_t, o_let_eq, nI_clamp (show i < 2 ^ 31 by omega), k9, nI_1]
    unfold sK at e3
    by_cases c : st.2.1 i = true
    · simp only [if_pos c, show ¬ (1 : Int32) = 0 by decide, if_false] at e3 ⊢
      exact e3
    · simp only [if_neg c, if_true] at e3 ⊢
      exact e3
theorem c_toBeside {m : aM} {a1 a2 : Nat} (ds : DS 2 m st u) (h2 : 20 < a2) (h12 : a1 ≠ a2) (hF : 401 ≤ F) : ∃ m', f_Len_toBeside F 2 a1 a2 m = some (0, m') ∧ (∀ j, j < 4 → m' a2 j = sK st j (m a1)) ∧ Fr (fun b j => b = a2 ∧ j < 4) m m' := c_toBeside_l h2 h12 4 0 F m (by omega) (by omega) ds (fun j hj => by omega)
theorem c_toOld_l {a1 a2 a3 : Nat} (h1 : 20 < a1) (h2 : 20 < a2) (h3 : 20 < a3) (h13 : a1 ≠ a3) (h23 : a2 ≠ a3) (hF : 401 ≤ F) : ∀ (d i N : Nat) (m : aM), i + d = 4 → d < N → DS 2 m st u → (∀ j, j < i → m a3 j = sO st j (m a2) (m a1)) → ∃ m', ll_Len_toOld_3 F N 2 a1 a2 a3 (nI i) m = some (0, m') ∧ (∀ j, j < 4 → m' a3 j = sO st j (m a2) (m a1)) ∧ Fr (fun b j => b = 10 ∨ (b = a3 ∧ j < 4)) m m'
  | 0, i, N, m, hd, hN, ds, h => by
    obtain ⟨N, rfl⟩ : ∃ k, N = k + 1 := ⟨N - 1, by omega⟩
    obtain rfl : i = 4 := by omega
    exact ⟨m, rfl, h, Fr.rf⟩
  | d + 1, i, N, m, hd, hN, ds, h => by
    obtain ⟨N, rfl⟩ : ∃ k, N = k + 1 := ⟨N - 1, by omega⟩
    obtain ⟨s, e, b1, b2, ls, le, b4, b5, m2, e2, f2⟩ := c_val (F := F) (a3 := a2) (a4 := a1) ds (show i < 8 by omega) (by omega) (by omega) hF
    have go : ∀ m3, Fr (fun b _ => b = 10) m m3 → ∃ m', ll_Len_toOld_3 F N 2 a1 a2 a3 (nI (i + 1)) (a_st m3 a3 i (sO st i (m a2) (m a1))) = some (0, m') ∧ (∀ j, j < 4 → m' a3 j = sO st j (m a2) (m a1)) ∧ Fr (fun b j => b = 10 ∨ (b = a3 ∧ j < 4)) m m' := fun m3 f3 => by
      have q1 : a_st m3 a3 i (sO st i (m a2) (m a1)) a1 = m a1 := by rw [a_st_ne h13]; exact funext fun j => f3 _ _ (by omega)
      have q2 : a_st m3 a3 i (sO st i (m a2) (m a1)) a2 = m a2 := by rw [a_st_ne h23]; exact funext fun j => f3 _ _ (by omega)
      obtain ⟨m', e4, h4, f4⟩ := c_toOld_l h1 h2 h3 h13 h23 hF d (i + 1) N (a_st m3 a3 i (sO st i (m a2) (m a1))) (by omega) (by omega) (ds.st (fun b j z1 z2 => by rw [a_st_ne (by omega), f3 b j (by omega)])) (fun j hj => by
        rw [q1, q2]
        by_cases c : j = i
        · rw [c, a_st_self]
        · rw [a_st_no (by omega), f3 _ _ (by omega)]; exact h j (by omega))
      rw [q1, q2] at h4
      exact ⟨m', e4, h4, Fr.tr ((f3.mono (fun b j hb => Or.inl hb)).st (Or.inr ⟨rfl, by omega⟩)) f4⟩
    have e0 : ll_Len_toOld_3 F (N + 1) 2 a1 a2 a3 (nI i) m = lb_Len_toOld_3 F (ll_Len_toOld_3 F N) 2 a1 a2 a3 (nI i) m := rfl
    rw [e0]
    unfold lb_Len_toOld_3 b_Len_toOld_70
    have c4 : ¬ (4 : Int32) ≤ nI i := nI_ge (b := 4) (by omega) (by decide)
    simp only [if_neg c4, inb_nI (show i < 8 by omega) (by decide), inb_nI (show i < 4 by omega) (by decide), o_gd_t, o_let_eq, nI_clamp (show i < 2 ^ 31 by omega), b1, b2, nI_1]
    unfold sO at go ⊢
    cases z : st.1 i with
    | none =>
      obtain ⟨rfl, rfl⟩ := b4 z
      have g := go m Fr.rf
      simp only [z] at g
      rw [if_pos (by decide)]
      exact g
    | some x =>
      have lt := b5 x z
      have g := go m2 f2
      simp only [z] at g e2
      rw [if_neg (nI_ge lt le), e2, o_b2_some]
      exact g
theorem c_toOld {m : aM} {a1 a2 a3 : Nat} (ds : DS 2 m st u) (h1 : 20 < a1) (h2 : 20 < a2) (h3 : 20 < a3) (h13 : a1 ≠ a3) (h23 : a2 ≠ a3) (hF : 401 ≤ F) : ∃ m', f_Len_toOld F 2 a1 a2 a3 m = some (0, m') ∧ (∀ j, j < 4 → m' a3 j = sO st j (m a2) (m a1)) ∧ Fr (fun b j => b = 10 ∨ (b = a3 ∧ j < 4)) m m' := c_toOld_l h1 h2 h3 h13 h23 hF 4 0 F m (by omega) (by omega) ds (fun j hj => by omega)
theorem c_isRight_l {a1 a2 : Nat} (h1 : 20 < a1) (h2 : 20 < a2) (hF : 401 ≤ F) : ∀ (d i N : Nat) (m : aM), i + d = st.2.2.1.length → d < N → DS 2 m st u → ∃ m', ll_Len_isRight_2 F N 2 a1 a2 (nI i) m = some (if (st.2.2.1.drop i).all (fun x => !decide (x.2 (m a2) (m a1) = 0)) = true then 1 else 0, m') ∧ Fr (fun b _ => b = 10) m m'
  | 0, i, N, m, hd, hN, ds => by
    obtain ⟨N, rfl⟩ : ∃ k, N = k + 1 := ⟨N - 1, by omega⟩
    obtain rfl : i = st.2.2.1.length := by omega
    have l16 : st.2.2.1.length ≤ 16 := by have := ds.2.2.2.1; have := ds.2.2.2.2.1; omega
    refine ⟨m, ?_, Fr.rf⟩
    show lb_Len_isRight_2 F (ll_Len_isRight_2 F N) 2 a1 a2 (nI st.2.2.1.length) m = _
    unfold lb_Len_isRight_2
    rw [ds.2.2.1, if_pos (nI_le (Nat.le_refl _) (by omega)), List.drop_length]
    rfl
  | d + 1, i, N, m, hd, hN, ds => by
    obtain ⟨N, rfl⟩ : ∃ k, N = k + 1 := ⟨N - 1, by omega⟩
    have l16 : st.2.2.1.length ≤ 16 := by have := ds.2.2.2.1; have := ds.2.2.2.2.1; omega
    have hi : i < st.2.2.1.length := by omega
    obtain ⟨s, e, b1, b2, b3, b4, b5⟩ := ds.2.2.2.2.2.2.2.2 i st.2.2.1[i] (List.getElem?_eq_getElem hi)
    have u4 := ds.2.2.2.2.2.1
    obtain ⟨m2, e2, f2⟩ := work_cd (F := F) (a0 := 2) (a3 := a2) (a4 := a1) (by omega) (by omega) (K := 40) (by omega) hF (by omega) (fun j _ => ⟨rfl, rfl⟩) (by omega) b5
    have q1 : m2 a1 = m a1 := funext fun j => f2 _ _ (show ¬ a1 = 2 + 8 by omega)
    have q2 : m2 a2 = m a2 := funext fun j => f2 _ _ (show ¬ a2 = 2 + 8 by omega)
    have e0 : ll_Len_isRight_2 F (N + 1) 2 a1 a2 (nI i) m = lb_Len_isRight_2 F (ll_Len_isRight_2 F N) 2 a1 a2 (nI i) m := rfl
    rw [e0]
    unfold lb_Len_isRight_2
    simp only [ds.2.2.1, if_neg (nI_ge hi (show st.2.2.1.length < 2 ^ 31 by omega)), if_neg (show ¬ (16 : Int32) ≤ nI i from nI_ge (b := 16) (by omega) (by decide)), inb_nI (show i < 16 by omega) (by decide), o_gd_t, o_let_eq, nI_clamp (show i < 2 ^ 31 by omega), nI_1]
    rw [show m (2 + 5) i = nI s from b1, show m (2 + 6) i = nI e from b2, e2, o_b2_some, List.drop_eq_getElem_cons hi, List.all_cons]
    by_cases c : st.2.2.1[i].2 (m a2) (m a1) = 0
    · rw [if_pos c]
      exact ⟨m2, by simp [c], f2.mono (fun b j hb => hb)⟩
    · rw [if_neg c]
      obtain ⟨m', e3, f3⟩ := c_isRight_l h1 h2 hF d (i + 1) N m2 (by omega) (by omega) (ds.st (fun b j z1 z2 => f2 b j (show ¬ b = 2 + 8 by omega)))
      rw [q1, q2] at e3
      refine ⟨m', ?_, Fr.tr (f2.mono (fun b j hb => hb)) f3⟩
      rw [e3]
      simp only [decide_eq_false c, Bool.not_false, Bool.true_and]
theorem c_isRight {m : aM} {a1 a2 : Nat} (ds : DS 2 m st u) (h1 : 20 < a1) (h2 : 20 < a2) (hF : 401 ≤ F) : ∃ m', f_Len_isRight F 2 a1 a2 m = some (if sR st (m a2) (m a1) = true then 1 else 0, m') ∧ Fr (fun b _ => b = 10) m m' := by
  have l16 : st.2.2.1.length ≤ 16 := by have := ds.2.2.2.1; have := ds.2.2.2.2.1; omega
  exact c_isRight_l h1 h2 hF st.2.2.1.length 0 F m (by omega) (by omega) ds
theorem c_isKept {m : aM} {l : Nat} (ds : DS 2 m st u) (hl : l < 4) : f_Len_isKept 2 (nI l) m = some (if st.2.1 l = true then 1 else 0) := by
  unfold f_Len_isKept
  have k9 : m 9 l = if st.2.1 l = true then 1 else 0 := ds.2.2.2.2.2.2.2.1 l hl
  simp only [if_neg (nI_pos (show l < 2 ^ 31 by omega)), if_neg (show ¬ (4 : Int32) ≤ nI l from nI_ge (b := 4) hl (by decide)), inb_nI hl (by decide), o_gd_t, o_let_eq, nI_clamp (show l < 2 ^ 31 by omega), k9]
  by_cases c : st.2.1 l = true <;> simp [c]
end
