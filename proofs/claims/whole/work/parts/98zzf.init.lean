/-! THE FIRST MEMORY -/
theorem nI_st (i : Nat) : nI i + 1 = nI (i + 1) := (nI_succ i).symm
theorem zr_at {m : aM} {z j : Nat} : a_zr m z z j = 0 := by simp [a_zr]
theorem zr_no {m : aM} {z b j : Nat} (h : b ≠ z) : a_zr m z b j = m b j := by simp [a_zr, h]
theorem gI {a b : Nat} (h : b ≤ a) (ha : a < 2 ^ 31) : nI b ≤ nI a := by
  rw [i_le, nI_toInt (by omega), nI_toInt ha]
  omega
/-- the asked -/
theorem i_ask {F a0 : Nat} : ∀ (dd i N : Nat) (m : aM), i + dd = 128 → dd < N → ∃ m', ll_Ask_init_15 F N a0 (nI i) m = some (0, m') ∧ ∀ b j, m' b j = if b = a0 + 1 ∧ i ≤ j ∧ j < 128 then -1 else m b j
  | 0, i, N, m, hd, hN => by
    obtain ⟨N, rfl⟩ : ∃ k, N = k + 1 := ⟨N - 1, by omega⟩
    obtain rfl : i = 128 := by omega
    refine ⟨m, rfl, fun b j => ?_⟩
    rw [if_neg (by omega)]
  | dd + 1, i, N, m, hd, hN => by
    obtain ⟨N, rfl⟩ : ∃ k, N = k + 1 := ⟨N - 1, by omega⟩
    obtain ⟨m', e, h⟩ := i_ask (F := F) (a0 := a0) dd (i + 1) N (a_st m (a0 + 1) i (-1)) (by omega) (by omega)
    refine ⟨m', ?_, fun b j => ?_⟩
    · show lb_Ask_init_15 F (ll_Ask_init_15 F N) a0 (nI i) m = _
      unfold lb_Ask_init_15
      rw [if_neg (show ¬ (128 : Int32) ≤ nI i from nI_ge (b := 128) (by omega) (by decide)), inb_nI (show i < 128 by omega) (by decide), o_gd_t, o_let_eq, nI_clamp (by omega), nI_st]
      exact e
    · rw [h]
      by_cases c : b = a0 + 1 ∧ j = i
      · rw [c.1, c.2, if_neg (by omega), if_pos (by omega), a_st_self]
      · by_cases c2 : b = a0 + 1 ∧ i + 1 ≤ j ∧ j < 128
        · rw [if_pos c2, if_pos (by omega)]
        · rw [if_neg c2, if_neg (by omega), a_st_no c]
/-- the plan -/
theorem i_pla70 {F a0 : Nat} : ∀ (dd i N : Nat) (m : aM), i + dd = 5 → dd < N → ∃ m', ll_Pla_init_70 F N a0 (nI i) m = some (0, m') ∧ ∀ b j, m' b j = if b = a0 ∧ j = 7 then 1 else if b = a0 + 3 ∧ i ≤ j ∧ j < 5 then 5 else m b j
  | 0, i, N, m, hd, hN => by
    obtain ⟨N, rfl⟩ : ∃ k, N = k + 1 := ⟨N - 1, by omega⟩
    obtain rfl : i = 5 := by omega
    refine ⟨a_st m a0 7 1, rfl, fun b j => ?_⟩
    by_cases c : b = a0 ∧ j = 7
    · rw [if_pos c, c.1, c.2, a_st_self]
    · rw [if_neg c, if_neg (by omega), a_st_no c]
  | dd + 1, i, N, m, hd, hN => by
    obtain ⟨N, rfl⟩ : ∃ k, N = k + 1 := ⟨N - 1, by omega⟩
    obtain ⟨m', e, h⟩ := i_pla70 (F := F) (a0 := a0) dd (i + 1) N (a_st m (a0 + 3) i 5) (by omega) (by omega)
    refine ⟨m', ?_, fun b j => ?_⟩
    · show lb_Pla_init_70 F (ll_Pla_init_70 F N) a0 (nI i) m = _
      unfold lb_Pla_init_70
      rw [if_neg (show ¬ (5 : Int32) ≤ nI i from nI_ge (b := 5) (by omega) (by decide)), inb_nI (show i < 5 by omega) (by decide), o_gd_t, o_let_eq, nI_clamp (by omega), nI_st]
      exact e
    · rw [h]
      by_cases c0 : b = a0 ∧ j = 7
      · rw [if_pos c0, if_pos c0]
      rw [if_neg c0, if_neg c0]
      by_cases c : b = a0 + 3 ∧ j = i
      · rw [c.1, c.2, if_neg (by omega), if_pos (by omega), a_st_self]
      · by_cases c2 : b = a0 + 3 ∧ i + 1 ≤ j ∧ j < 5
        · rw [if_pos c2, if_pos (by omega)]
        · rw [if_neg c2, if_neg (by omega), a_st_no c]
theorem i_m5 {i : Nat} (h : i < 15) : nI i % 5 + 1 = nI (i % 5 + 1) := by
  match i, h with
  | 0, _ => rfl
  | 1, _ => rfl
  | 2, _ => rfl
  | 3, _ => rfl
  | 4, _ => rfl
  | 5, _ => rfl
  | 6, _ => rfl
  | 7, _ => rfl
  | 8, _ => rfl
  | 9, _ => rfl
  | 10, _ => rfl
  | 11, _ => rfl
  | 12, _ => rfl
  | 13, _ => rfl
  | 14, _ => rfl
theorem i_pla45 {F a0 : Nat} (hF : 20000 ≤ F) : ∀ (dd i N : Nat) (m : aM), i + dd = 15 → dd < N → ∃ m', ll_Pla_init_45 F N a0 (nI i) m = some (0, m') ∧ ∀ b j, m' b j = if b = a0 ∧ j = 7 then 1 else if b = a0 + 3 ∧ j < 5 then 5 else if b = a0 + 1 ∧ i ≤ j ∧ j < 15 then nI (j % 5 + 1) else m b j
  | 0, i, N, m, hd, hN => by
    obtain ⟨N, rfl⟩ : ∃ k, N = k + 1 := ⟨N - 1, by omega⟩
    obtain rfl : i = 15 := by omega
    obtain ⟨m', e, h⟩ := i_pla70 (F := F) (a0 := a0) 5 0 F m (by omega) (by omega)
    refine ⟨m', ?_, fun b j => ?_⟩
    · show lb_Pla_init_45 F (ll_Pla_init_45 F N) a0 (nI 15) m = _
      unfold lb_Pla_init_45
      rw [if_pos (show (15 : Int32) ≤ nI 15 by decide)]
      exact e
    · rw [h]
      by_cases c0 : b = a0 ∧ j = 7
      · rw [if_pos c0, if_pos c0]
      rw [if_neg c0, if_neg c0]
      by_cases c : b = a0 + 3 ∧ j < 5
      · rw [if_pos (by omega), if_pos c]
      · rw [if_neg (by omega), if_neg c, if_neg (by omega)]
  | dd + 1, i, N, m, hd, hN => by
    obtain ⟨N, rfl⟩ : ∃ k, N = k + 1 := ⟨N - 1, by omega⟩
    obtain ⟨m', e, h⟩ := i_pla45 (F := F) (a0 := a0) hF dd (i + 1) N (a_st m (a0 + 1) i (nI (i % 5 + 1))) (by omega) (by omega)
    refine ⟨m', ?_, fun b j => ?_⟩
    · show lb_Pla_init_45 F (ll_Pla_init_45 F N) a0 (nI i) m = _
      unfold lb_Pla_init_45
      rw [if_neg (show ¬ (15 : Int32) ≤ nI i from nI_ge (b := 15) (by omega) (by decide)), inb_nI (show i < 15 by omega) (by decide), o_gd_t, o_let_eq, nI_clamp (by omega), i_m5 (by omega), nI_st]
      exact e
    · rw [h]
      by_cases c0 : b = a0 ∧ j = 7
      · rw [if_pos c0, if_pos c0]
      rw [if_neg c0, if_neg c0]
      by_cases c1 : b = a0 + 3 ∧ j < 5
      · rw [if_pos c1, if_pos c1]
      rw [if_neg c1, if_neg c1]
      by_cases c : b = a0 + 1 ∧ j = i
      · rw [c.1, c.2, if_neg (by omega), if_pos (by omega), a_st_self]
      · by_cases c2 : b = a0 + 1 ∧ i + 1 ≤ j ∧ j < 15
        · rw [if_pos c2, if_pos (by omega)]
        · rw [if_neg c2, if_neg (by omega), a_st_no c]
theorem i_pla {F : Nat} (hF : 20000 ≤ F) (m : aM) : ∃ m', f_Pla_init F 29 m = some (0, m') ∧ (∀ b j, ¬ (29 ≤ b ∧ b ≤ 34) → m' b j = m b j) ∧ (∀ j, m' 29 j = if j = 7 then 1 else m 29 j) ∧ (∀ j, j < 15 → m' 30 j = nI (j % 5 + 1)) ∧ (∀ j, m' 31 j = 0) ∧ (∀ j, j < 5 → m' 32 j = 5) ∧ (∀ j, m' 33 j = 0) ∧ ∀ j, m' 34 j = 0 := by
  unfold f_Pla_init b_Pla_init_43
  simp only [o_let_eq]
  obtain ⟨m', e, h⟩ := i_pla45 (F := F) (a0 := 29) hF 15 0 F (a_zr (a_zr (a_zr (a_zr (a_zr m (29 + 1)) (29 + 2)) (29 + 3)) (29 + 4)) (29 + 5)) (by omega) (by omega)
  refine ⟨m', e, fun b j hb => ?_, fun j => ?_, fun j hj => ?_, fun j => ?_, fun j hj => ?_, fun j => ?_, fun j => ?_⟩
  · rw [h, if_neg (by omega), if_neg (by omega), if_neg (by omega), zr_no (by omega), zr_no (by omega), zr_no (by omega), zr_no (by omega), zr_no (by omega)]
  · rw [h]
    by_cases c : j = 7
    · rw [if_pos ⟨rfl, c⟩, if_pos c]
    · rw [if_neg (by omega), if_neg (by omega), if_neg (by omega), if_neg c, zr_no (by omega), zr_no (by omega), zr_no (by omega), zr_no (by omega), zr_no (by omega)]
  · rw [h, if_neg (by omega), if_neg (by omega), if_pos (by omega)]
  · rw [h, if_neg (by omega), if_neg (by omega), if_neg (by omega), zr_no (by omega), zr_no (by omega), zr_no (by omega)]
    exact zr_at
  · rw [h, if_neg (by omega), if_pos (by omega)]
  · rw [h, if_neg (by omega), if_neg (by omega), if_neg (by omega), zr_no (by omega)]
    exact zr_at
  · rw [h, if_neg (by omega), if_neg (by omega), if_neg (by omega)]
    exact zr_at
/-- a lens: the letters as they are -/
theorem i_adO {a0 : Nat} {m : aM} {u : Nat} {x y : Int32} (h : m a0 2 = nI u) (hu : u < 400) : f_Len_addOrder a0 x y m = some (nI u, a_st (a_st (a_st m (a0 + 1) u x) (a0 + 2) u y) a0 2 (nI (u + 1))) := by
  have e1 : a_st m (a0 + 1) u x a0 2 = nI u := by rw [a_st_no (by omega)]; exact h
  have e2 : a_st (a_st m (a0 + 1) u x) (a0 + 2) u y a0 2 = nI u := by rw [a_st_no (by omega)]; exact e1
  unfold f_Len_addOrder
  rw [h, if_pos (show nI u < (400 : Int32) by rw [i_lt, nI_toInt (by omega)]; show (u : Int) < 400; omega), inb_nI hu (by decide), o_gd_t, nI_clamp (by omega), o_let_eq, e1, inb_nI hu (by decide), o_gd_t, nI_clamp (by omega), o_let_eq, o_let_eq, e2, nI_st, a_st_self, nI_pred]
def lQ (a0 : Nat) (m : aM) (l : Nat) : Prop := m (a0 + 1) (2 * l) = 2 ∧ m (a0 + 2) (2 * l) = nI l ∧ m (a0 + 1) (2 * l + 1) = 1 ∧ m (a0 + 2) (2 * l + 1) = nI l ∧ m (a0 + 3) l = nI (2 * l) ∧ m (a0 + 4) l = nI (2 * l + 1) ∧ m (a0 + 3) (4 + l) = nI (2 * l + 1) ∧ m (a0 + 4) (4 + l) = nI (2 * l + 2)
theorem i_len71 {F a0 : Nat} : ∀ (dd i N : Nat) (m : aM), i + dd = 4 → dd < N → m a0 2 = nI (2 * i) → (∀ l, l < i → lQ a0 m l) → ∃ m', ll_Len_init_71 F N a0 (nI i) m = some (0, m') ∧ m' a0 2 = nI 8 ∧ (∀ l, l < 4 → lQ a0 m' l) ∧ ∀ b j, ¬ (b = a0 ∧ j = 2 ∨ a0 + 1 ≤ b ∧ b ≤ a0 + 4) → m' b j = m b j
  | 0, i, N, m, hd, hN, h2, hq => by
    obtain ⟨N, rfl⟩ : ∃ k, N = k + 1 := ⟨N - 1, by omega⟩
    obtain rfl : i = 4 := by omega
    exact ⟨m, rfl, h2, hq, fun _ _ _ => rfl⟩
  | dd + 1, i, N, m, hd, hN, h2, hq => by
    obtain ⟨N, rfl⟩ : ∃ k, N = k + 1 := ⟨N - 1, by omega⟩
    let m2 : aM := a_st (a_st (a_st m (a0 + 1) (2 * i) 2) (a0 + 2) (2 * i) (nI i)) a0 2 (nI (2 * i + 1))
    let m6 : aM := a_st (a_st m2 (a0 + 3) i (nI (2 * i))) (a0 + 4) i (nI (2 * i + 1))
    let m8 : aM := a_st (a_st (a_st m6 (a0 + 1) (2 * i + 1) 1) (a0 + 2) (2 * i + 1) (nI i)) a0 2 (nI (2 * i + 1 + 1))
    let mC : aM := a_st (a_st m8 (a0 + 3) (4 + i) (nI (2 * i + 1))) (a0 + 4) (4 + i) (nI (2 * i + 1 + 1))
    have n1 : f_Len_addOrder a0 2 (nI i) m = some (nI (2 * i), m2) := i_adO h2 (by omega)
    have q1 : a_st m2 (a0 + 3) i (nI (2 * i)) a0 2 = nI (2 * i + 1) := by
      rw [a_st_no (by omega)]
      exact a_st_self
    have q2 : m6 a0 2 = nI (2 * i + 1) := by
      show a_st (a_st m2 (a0 + 3) i (nI (2 * i))) (a0 + 4) i (nI (2 * i + 1)) a0 2 = _
      rw [a_st_no (by omega)]
      exact q1
    have n2 : f_Len_addOrder a0 1 (nI i) m6 = some (nI (2 * i + 1), m8) := i_adO q2 (by omega)
    have q3 : a_st m8 (a0 + 3) (4 + i) (nI (2 * i + 1)) a0 2 = nI (2 * i + 1 + 1) := by
      rw [a_st_no (by omega)]
      exact a_st_self
    have q4 : (4 : Int32) + nI i = nI (4 + i) := nI_add 4 i
    have fC : ∀ b j, ¬ (b = a0 ∧ j = 2 ∨ b = a0 + 1 ∧ (j = 2 * i ∨ j = 2 * i + 1) ∨ b = a0 + 2 ∧ (j = 2 * i ∨ j = 2 * i + 1) ∨ b = a0 + 3 ∧ (j = i ∨ j = 4 + i) ∨ b = a0 + 4 ∧ (j = i ∨ j = 4 + i)) → mC b j = m b j := fun b j hb => by
      simp only [mC, m8, m6, m2]
      rw [a_st_no (by omega), a_st_no (by omega), a_st_no (by omega), a_st_no (by omega), a_st_no (by omega), a_st_no (by omega), a_st_no (by omega), a_st_no (by omega), a_st_no (by omega), a_st_no (by omega)]
    obtain ⟨m', e, h, k, f⟩ := i_len71 (F := F) (a0 := a0) dd (i + 1) N mC (by omega) (by omega) (by
      show a_st (a_st m8 (a0 + 3) (4 + i) (nI (2 * i + 1))) (a0 + 4) (4 + i) (nI (2 * i + 1 + 1)) a0 2 = _
      rw [a_st_no (by omega)]
      exact q3) (fun l hl => by
      by_cases c : l = i
      · subst c
        refine ⟨?_, ?_, ?_, ?_, ?_, ?_, ?_, ?_⟩ <;> simp only [mC, m8, m6, m2] <;> simp [a_st] <;> omega
      · obtain ⟨z1, z2, z3, z4, z5, z6, z7, z8⟩ := hq l (by omega)
        exact ⟨(fC _ _ (by omega)).trans z1, (fC _ _ (by omega)).trans z2, (fC _ _ (by omega)).trans z3, (fC _ _ (by omega)).trans z4, (fC _ _ (by omega)).trans z5, (fC _ _ (by omega)).trans z6, (fC _ _ (by omega)).trans z7, (fC _ _ (by omega)).trans z8⟩)
    refine ⟨m', ?_, h, k, fun b j hb => (f b j hb).trans (fC b j (by omega))⟩
    show lb_Len_init_71 F (ll_Len_init_71 F N) a0 (nI i) m = _
    unfold lb_Len_init_71
    rw [if_neg (show ¬ (4 : Int32) ≤ nI i from nI_ge (b := 4) (by omega) (by decide)), n1, o_b2_some, inb_nI (show i < 8 by omega) (by decide), o_gd_t, nI_clamp (by omega), o_let_eq, o_gd_t, o_let_eq, q1]
    show o_b2 (f_Len_addOrder a0 1 (nI i) m6) _ = _
    rw [n2, o_b2_some, q4, inb_nI (show 4 + i < 8 by omega) (by decide), o_gd_t, nI_clamp (by omega), o_let_eq, o_gd_t, o_let_eq, q3, nI_st]
    exact e
theorem i_len {F a0 : Nat} (hF : 20000 ≤ F) (m : aM) (h0 : ∀ j, m a0 j = 0) : ∃ m', f_Len_init F a0 m = some (0, m') ∧ (∀ b j, ¬ (a0 ≤ b ∧ b ≤ a0 + 8) → m' b j = m b j) ∧ DS a0 m' stD 8 := by
  unfold f_Len_init b_Len_init_69
  simp only [o_let_eq]
  obtain ⟨m', e, h2, hq, f⟩ := i_len71 (F := F) (a0 := a0) 4 0 F (a_zr (a_zr (a_zr (a_zr (a_zr (a_zr (a_zr (a_zr m (a0 + 1)) (a0 + 2)) (a0 + 3)) (a0 + 4)) (a0 + 5)) (a0 + 6)) (a0 + 7)) (a0 + 8)) (by omega) (by omega) (by
    rw [zr_no (by omega), zr_no (by omega), zr_no (by omega), zr_no (by omega), zr_no (by omega), zr_no (by omega), zr_no (by omega), zr_no (by omega)]
    exact h0 2) (fun l hl => by omega)
  have z0 : ∀ j, j ≠ 2 → m' a0 j = 0 := fun j hj => by
    rw [f _ _ (by omega), zr_no (by omega), zr_no (by omega), zr_no (by omega), zr_no (by omega), zr_no (by omega), zr_no (by omega), zr_no (by omega), zr_no (by omega)]
    exact h0 j
  refine ⟨m', e, fun b j hb => ?_, h2, z0 10 (by decide), z0 7 (by decide), by decide, by decide, by decide, fun l hl => ?_, fun l hl => ?_, fun i x hx => ?_⟩
  · rw [f _ _ (by omega), zr_no (by omega), zr_no (by omega), zr_no (by omega), zr_no (by omega), zr_no (by omega), zr_no (by omega), zr_no (by omega), zr_no (by omega)]
  · by_cases c : l < 4
    · obtain ⟨z1, z2, z3, z4, z5, z6, z7, z8⟩ := hq l c
      refine ⟨2 * l, 2 * l + 1, z5, z6, by omega, fun q => (by cases q), fun x hx => ⟨by omega, ?_⟩⟩
      have : x = (0, if l < 4 then (fun _ b => b l) else (fun a _ => a (l - 4))) := (Option.some.inj hx).symm
      rw [this]
      simp only [if_pos c]
      exact (Cd.ltn c z1 z2).mo (by decide)
    · obtain ⟨k, rfl⟩ : ∃ k, l = 4 + k := ⟨l - 4, by omega⟩
      obtain ⟨z1, z2, z3, z4, z5, z6, z7, z8⟩ := hq k (by omega)
      refine ⟨2 * k + 1, 2 * k + 2, z7, z8, by omega, fun q => (by cases q), fun x hx => ⟨by omega, ?_⟩⟩
      have : x = (0, if 4 + k < 4 then (fun _ b => b (4 + k)) else (fun a _ => a (4 + k - 4))) := (Option.some.inj hx).symm
      rw [this]
      simp only [if_neg c, Nat.add_sub_cancel_left]
      exact (Cd.lto (by omega) z3 z4).mo (by decide)
  · rw [f _ _ (by omega), zr_no (by omega)]
    rw [if_neg (show ¬ stD.2.1 l = true by simp [stD])]
    exact zr_at
  · have : stD.2.2.1[i]? = none := rfl
    rw [this] at hx
    cases hx
