/-! THE FIRST MEMORY 3: the reference -/
theorem j_456 {F : Nat} : ∀ (dd i N : Nat) (m : aM), i + dd = 5 → dd < N → ∃ m', ll_Mod_init_456 F N (nI i) m = some (0, m') ∧ ∀ b j, m' b j = if b = 8470 ∧ i ≤ j ∧ j < 5 then 5 else m b j
  | 0, i, N, m, hd, hN => by
    obtain ⟨N, rfl⟩ : ∃ k, N = k + 1 := ⟨N - 1, by omega⟩
    obtain rfl : i = 5 := by omega
    refine ⟨m, rfl, fun b j => ?_⟩
    rw [if_neg (by omega)]
  | dd + 1, i, N, m, hd, hN => by
    obtain ⟨N, rfl⟩ : ∃ k, N = k + 1 := ⟨N - 1, by omega⟩
    obtain ⟨m', e, h⟩ := j_456 (F := F) dd (i + 1) N (a_st m 8470 i 5) (by omega) (by omega)
    refine ⟨m', ?_, fun b j => ?_⟩
    · show lb_Mod_init_456 F (ll_Mod_init_456 F N) (nI i) m = _
      unfold lb_Mod_init_456
      rw [if_neg (show ¬ (5 : Int32) ≤ nI i from nI_ge (b := 5) (by omega) (by decide)), inb_nI (show i < 5 by omega) (by decide), o_gd_t, o_let_eq, nI_clamp (by omega), nI_st]
      exact e
    · rw [h]
      by_cases c : b = 8470 ∧ j = i
      · rw [c.1, c.2, if_neg (by omega), if_pos (by omega), a_st_self]
      · by_cases c2 : b = 8470 ∧ i + 1 ≤ j ∧ j < 5
        · rw [if_pos c2, if_pos (by omega)]
        · rw [if_neg c2, if_neg (by omega), a_st_no c]
theorem j_426 {F a : Nat} (ha : a < 3) {r : Int32 → aM → Option (Int32 × aM)} : ∀ (dd i N : Nat) (m : aM), i + dd = 5 → dd < N → ∃ m', ll_Mod_init_426 F r N (nI a) (nI i) m = r (nI (a + 1)) m' ∧ ∀ b j, m' b j = if b = 8453 + a ∧ i ≤ j ∧ j < 5 then nI (j + 1) else m b j
  | 0, i, N, m, hd, hN => by
    obtain ⟨N, rfl⟩ : ∃ k, N = k + 1 := ⟨N - 1, by omega⟩
    obtain rfl : i = 5 := by omega
    refine ⟨m, ?_, fun b j => ?_⟩
    · show lb_Mod_init_426 F r (ll_Mod_init_426 F r N) (nI a) (nI 5) m = _
      unfold lb_Mod_init_426
      rw [if_pos (show (5 : Int32) ≤ nI 5 by decide), nI_st]
    · rw [if_neg (by omega)]
  | dd + 1, i, N, m, hd, hN => by
    obtain ⟨N, rfl⟩ : ∃ k, N = k + 1 := ⟨N - 1, by omega⟩
    obtain ⟨m', e, h⟩ := j_426 (F := F) ha (r := r) dd (i + 1) N (a_st m (8453 + a) i (nI (i + 1))) (by omega) (by omega)
    refine ⟨m', ?_, fun b j => ?_⟩
    · show lb_Mod_init_426 F r (ll_Mod_init_426 F r N) (nI a) (nI i) m = _
      unfold lb_Mod_init_426
      rw [if_neg (show ¬ (5 : Int32) ≤ nI i from nI_ge (b := 5) (by omega) (by decide)), inb_nI (show a < 3 by omega) (by decide), o_gd_t, inb_nI (show i < 5 by omega) (by decide), o_gd_t, o_let_eq, nI_clamp (show i < 2 ^ 31 by omega), nI_clamp (show a < 2 ^ 31 by omega), nI_st]
      exact e
    · rw [h]
      by_cases c : b = 8453 + a ∧ j = i
      · rw [c.1, c.2, if_neg (by omega), if_pos (by omega), a_st_self]
      · by_cases c2 : b = 8453 + a ∧ i + 1 ≤ j ∧ j < 5
        · rw [if_pos c2, if_pos (by omega)]
        · rw [if_neg c2, if_neg (by omega), a_st_no c]
theorem j_419 {F : Nat} (hF : 20000 ≤ F) : ∀ (dd a N : Nat) (m : aM), a + dd = 3 → dd < N → ∃ m', ll_Mod_init_419 F N (nI a) m = some (0, m') ∧ (∀ q s, a ≤ q → q < 3 → s < 5 → m' (8453 + q) s = nI (s + 1)) ∧ (∀ j, j < 5 → m' 8470 j = 5) ∧ ∀ b j, ¬ (b = 8470 ∨ 8453 + a ≤ b ∧ b < 8456) → m' b j = m b j
  | 0, a, N, m, hd, hN => by
    obtain ⟨N, rfl⟩ : ∃ k, N = k + 1 := ⟨N - 1, by omega⟩
    obtain rfl : a = 3 := by omega
    obtain ⟨m', e, h⟩ := j_456 (F := F) 5 0 F m (by omega) (by omega)
    refine ⟨m', ?_, fun q s h1 h2 => by omega, fun j hj => ?_, fun b j hb => ?_⟩
    · show lb_Mod_init_419 F (ll_Mod_init_419 F N) (nI 3) m = _
      unfold lb_Mod_init_419
      rw [if_pos (show (3 : Int32) ≤ nI 3 by decide)]
      exact e
    · rw [h, if_pos (by omega)]
    · rw [h, if_neg (by omega)]
  | dd + 1, a, N, m, hd, hN => by
    obtain ⟨N, rfl⟩ : ∃ k, N = k + 1 := ⟨N - 1, by omega⟩
    obtain ⟨m1, e1, h1⟩ := j_426 (F := F) (a := a) (by omega) (r := ll_Mod_init_419 F N) 5 0 F m (by omega) (by omega)
    obtain ⟨m', e, h, k, f⟩ := j_419 hF dd (a + 1) N m1 (by omega) (by omega)
    refine ⟨m', ?_, fun q s q1 q2 hs => ?_, k, fun b j hb => ?_⟩
    · show lb_Mod_init_419 F (ll_Mod_init_419 F N) (nI a) m = _
      unfold lb_Mod_init_419
      rw [if_neg (show ¬ (3 : Int32) ≤ nI a from nI_ge (b := 3) (by omega) (by decide))]
      exact e1.trans e
    · by_cases c : q = a
      · rw [c, f _ _ (by omega), h1, if_pos (by omega)]
      · exact h q s (by omega) q2 hs
    · rw [f _ _ (by omega), h1, if_neg (by omega)]
theorem j_372 {F N p l : Nat} {r7 : Int32 → aM → Option (Int32 × aM)} {r5 : Int32 → Int32 → aM → Option (Int32 × aM)} (hp : p < 8) (hl : l < 4) (m : aM) (hN : 3 ≤ N) : ∃ m', ll_Mod_init_372 F r7 r5 N (nI p) (nI l) 0 m = r5 (nI p) (nI (l + 1)) m' ∧ ∀ b j, m' b j = if (b = 8644 + 3 * p ∨ b = 8645 + 3 * p ∨ b = 8669 + 3 * p ∨ b = 8670 + 3 * p) ∧ j = l then -1 else m b j := by
  obtain ⟨N, rfl⟩ : ∃ k, N = k + 1 + 1 + 1 := ⟨N - 3, by omega⟩
  have st : ∀ (M : Nat) (f : Nat) (m : aM), f < 2 → ll_Mod_init_372 F r7 r5 (M + 1) (nI p) (nI l) (nI f) m = ll_Mod_init_372 F r7 r5 M (nI p) (nI l) (nI (f + 1)) (a_st (a_st m (8644 + 3 * p + f) l (-1)) (8669 + 3 * p + f) l (-1)) := fun M f m hf => by
    show lb_Mod_init_372 F r7 r5 (ll_Mod_init_372 F r7 r5 M) (nI p) (nI l) (nI f) m = _
    unfold lb_Mod_init_372
    rw [if_neg (show ¬ (2 : Int32) ≤ nI f from nI_ge (b := 2) (by omega) (by decide)), inb_nI hp (by decide), o_gd_t, inb_nI hf (by decide), o_gd_t, inb_nI hl (by decide), o_gd_t, o_let_eq, o_gd_t, o_gd_t, o_gd_t, o_let_eq, nI_clamp (show p < 2 ^ 31 by omega), nI_clamp (show l < 2 ^ 31 by omega), nI_clamp (show f < 2 ^ 31 by omega), nI_st]
  refine ⟨a_st (a_st (a_st (a_st m (8644 + 3 * p + 0) l (-1)) (8669 + 3 * p + 0) l (-1)) (8644 + 3 * p + 1) l (-1)) (8669 + 3 * p + 1) l (-1), ?_, fun b j => ?_⟩
  · show ll_Mod_init_372 F r7 r5 (N + 1 + 1 + 1) (nI p) (nI l) (nI 0) m = _
    rw [st _ 0 m (by omega), st _ (0 + 1) _ (by omega)]
    show lb_Mod_init_372 F r7 r5 (ll_Mod_init_372 F r7 r5 N) (nI p) (nI l) (nI 2) _ = _
    unfold lb_Mod_init_372
    rw [if_pos (show (2 : Int32) ≤ nI 2 by decide), nI_st]
  · by_cases c : j = l
    · subst c
      by_cases c1 : b = 8670 + 3 * p
      · rw [if_pos (by omega), c1, show 8670 + 3 * p = 8669 + 3 * p + 1 by omega, a_st_self]
      rw [a_st_no (by omega)]
      by_cases c2 : b = 8645 + 3 * p
      · rw [if_pos (by omega), c2, show 8645 + 3 * p = 8644 + 3 * p + 1 by omega, a_st_self]
      rw [a_st_no (by omega)]
      by_cases c3 : b = 8669 + 3 * p
      · rw [if_pos (by omega), c3, show 8669 + 3 * p = 8669 + 3 * p + 0 by omega, a_st_self]
      rw [a_st_no (by omega)]
      by_cases c4 : b = 8644 + 3 * p
      · rw [if_pos (by omega), c4, show 8644 + 3 * p = 8644 + 3 * p + 0 by omega, a_st_self]
      rw [a_st_no (by omega), if_neg (by omega)]
    · rw [if_neg (by omega), a_st_no (by omega), a_st_no (by omega), a_st_no (by omega), a_st_no (by omega)]
theorem j_365 {F p : Nat} (hF : 20000 ≤ F) {r7 : Int32 → aM → Option (Int32 × aM)} (hp : p < 8) : ∀ (dd l N : Nat) (m : aM), l + dd = 4 → dd < N → ∃ m', ll_Mod_init_365 F r7 N (nI p) (nI l) m = r7 (nI (p + 1)) m' ∧ ∀ b j, m' b j = if (b = 8644 + 3 * p ∨ b = 8645 + 3 * p ∨ b = 8669 + 3 * p ∨ b = 8670 + 3 * p) ∧ l ≤ j ∧ j < 4 then -1 else m b j
  | 0, l, N, m, hd, hN => by
    obtain ⟨N, rfl⟩ : ∃ k, N = k + 1 := ⟨N - 1, by omega⟩
    obtain rfl : l = 4 := by omega
    refine ⟨m, ?_, fun b j => ?_⟩
    · show lb_Mod_init_365 F r7 (ll_Mod_init_365 F r7 N) (nI p) (nI 4) m = _
      unfold lb_Mod_init_365
      rw [if_pos (show (4 : Int32) ≤ nI 4 by decide), nI_st]
    · rw [if_neg (by omega)]
  | dd + 1, l, N, m, hd, hN => by
    obtain ⟨N, rfl⟩ : ∃ k, N = k + 1 := ⟨N - 1, by omega⟩
    obtain ⟨m1, e1, h1⟩ := j_372 (F := F) (N := F) (r7 := r7) (r5 := ll_Mod_init_365 F r7 N) hp (show l < 4 by omega) m (by omega)
    obtain ⟨m', e, h⟩ := j_365 hF (r7 := r7) hp dd (l + 1) N m1 (by omega) (by omega)
    refine ⟨m', ?_, fun b j => ?_⟩
    · show lb_Mod_init_365 F r7 (ll_Mod_init_365 F r7 N) (nI p) (nI l) m = _
      unfold lb_Mod_init_365
      rw [if_neg (show ¬ (4 : Int32) ≤ nI l from nI_ge (b := 4) (by omega) (by decide))]
      exact e1.trans e
    · rw [h, h1]
      by_cases c : (b = 8644 + 3 * p ∨ b = 8645 + 3 * p ∨ b = 8669 + 3 * p ∨ b = 8670 + 3 * p) ∧ l + 1 ≤ j ∧ j < 4
      · rw [if_pos c, if_pos (by omega)]
      · rw [if_neg c]
        by_cases c2 : (b = 8644 + 3 * p ∨ b = 8645 + 3 * p ∨ b = 8669 + 3 * p ∨ b = 8670 + 3 * p) ∧ j = l
        · rw [if_pos c2, if_pos (by omega)]
        · rw [if_neg c2, if_neg (by omega)]
theorem j_357 {F : Nat} (hF : 20000 ≤ F) : ∀ (dd p N : Nat) (m : aM), p + dd = 8 → dd < N → ∃ m', ll_Mod_init_357 F N (nI p) m = some (0, m') ∧ (∀ q f l, p ≤ q → q < 8 → f < 2 → l < 4 → m' (8644 + 3 * q + f) l = -1 ∧ m' (8669 + 3 * q + f) l = -1) ∧ (∀ q s, q < 3 → s < 5 → m' (8453 + q) s = nI (s + 1)) ∧ (∀ j, j < 5 → m' 8470 j = 5) ∧ ∀ b j, ¬ (b = 8470 ∨ 8453 ≤ b ∧ b < 8456 ∨ 8644 + 3 * p ≤ b ∧ b < 8667 ∨ 8669 + 3 * p ≤ b) → m' b j = m b j
  | 0, p, N, m, hd, hN => by
    obtain ⟨N, rfl⟩ : ∃ k, N = k + 1 := ⟨N - 1, by omega⟩
    obtain rfl : p = 8 := by omega
    obtain ⟨m', e, h, k, f⟩ := j_419 hF 3 0 F m (by omega) (by omega)
    refine ⟨m', ?_, fun q f l h1 h2 => by omega, fun q s h1 h2 => h q s (by omega) h1 h2, k, fun b j hb => f b j (by omega)⟩
    show lb_Mod_init_357 F (ll_Mod_init_357 F N) (nI 8) m = _
    unfold lb_Mod_init_357
    rw [if_pos (show (8 : Int32) ≤ nI 8 by decide)]
    exact e
  | dd + 1, p, N, m, hd, hN => by
    obtain ⟨N, rfl⟩ : ∃ k, N = k + 1 := ⟨N - 1, by omega⟩
    obtain ⟨m1, e1, h1⟩ := j_365 hF (p := p) (r7 := ll_Mod_init_357 F N) (by omega) 4 0 F m (by omega) (by omega)
    obtain ⟨m', e, h, k1, k2, f⟩ := j_357 hF dd (p + 1) N m1 (by omega) (by omega)
    refine ⟨m', ?_, fun q u l q1 q2 hf hl => ?_, k1, k2, fun b j hb => ?_⟩
    · show lb_Mod_init_357 F (ll_Mod_init_357 F N) (nI p) m = _
      unfold lb_Mod_init_357
      rw [if_neg (show ¬ (8 : Int32) ≤ nI p from nI_ge (b := 8) (by omega) (by decide))]
      exact e1.trans e
    · by_cases c : q = p
      · rw [c, f _ _ (by omega), f _ _ (by omega), h1, h1, if_pos (by omega), if_pos (by omega)]
        exact ⟨rfl, rfl⟩
      · exact h q u l (by omega) q2 hf hl
    · rw [f _ _ (by omega), h1, if_neg (by omega)]
theorem j_325 {F : Nat} (hF : 20000 ≤ F) : ∀ (dd i N : Nat) (m : aM), i + dd = 40 → dd < N → ∃ m1 m', ll_Mod_init_325 F N (nI i) m = some (0, m') ∧ ll_Mod_init_357 F F 0 m1 = some (0, m') ∧ ∀ b j, ¬ (8602 + i ≤ b ∧ b < 8642) → m1 b j = m b j
  | 0, i, N, m, hd, hN => by
    obtain ⟨N, rfl⟩ : ∃ k, N = k + 1 := ⟨N - 1, by omega⟩
    obtain rfl : i = 40 := by omega
    obtain ⟨m', e, -⟩ := j_357 hF 8 0 F m (by omega) (by omega)
    refine ⟨m, m', ?_, e, fun _ _ _ => rfl⟩
    show lb_Mod_init_325 F (ll_Mod_init_325 F N) (nI 40) m = _
    unfold lb_Mod_init_325
    rw [if_pos (show (40 : Int32) ≤ nI 40 by decide)]
    exact e
  | dd + 1, i, N, m, hd, hN => by
    obtain ⟨N, rfl⟩ : ∃ k, N = k + 1 := ⟨N - 1, by omega⟩
    obtain ⟨m1, m', e, h, f⟩ := j_325 hF dd (i + 1) N (a_st (a_st m (8602 + i) 0 (-1)) (8602 + i) 1 (-1)) (by omega) (by omega)
    refine ⟨m1, m', ?_, h, fun b j hb => ?_⟩
    · show lb_Mod_init_325 F (ll_Mod_init_325 F N) (nI i) m = _
      unfold lb_Mod_init_325
      rw [if_neg (show ¬ (40 : Int32) ≤ nI i from nI_ge (b := 40) (by omega) (by decide)), inb_nI (show i < 40 by omega) (by decide), o_gd_t, o_let_eq, o_gd_t, o_let_eq, nI_clamp (show i < 2 ^ 31 by omega), nI_st]
      exact e
    · rw [f _ _ (by omega), a_st_no (by omega), a_st_no (by omega)]
theorem zf_at {m : aM} {z b j : Nat} (h : z ≤ b) : a_zf m z b j = 0 := by simp [a_zf, Nat.not_lt.mpr h]
theorem zf_no {m : aM} {z b j : Nat} (h : b < z) : a_zf m z b j = m b j := by simp [a_zf, h]
/-- the cells of the reference before its loops -/
def Mz (m m37 : aM) (z : Nat) : Prop := (∀ b j, z ≤ b → m37 b j = 0) ∧ ∀ b j, b < z → m37 b j = m b j
