/-! ROWS: led, put by; insert, mend -/
def ld (st : lS) (a : Nat → Int32) : Nat := if sR st (fun j => sK st j a) (fun j => sN st j a) = true then 1 else 3
theorem ld_cg {m : aM} {st : lS} (h : ML m st) {a a' : Nat → Int32} (e : ∀ j, j < 4 → a j = a' j) : ld st a = ld st a' := by
  unfold ld
  rw [sR_cg h (b' := fun j => sK st j a') (f' := fun j => sN st j a') (fun j hj => sK_cg hj e) (fun j hj => sN_cg h hj e)]
theorem ld_13 {st : lS} {a : Nat → Int32} : ld st a = 1 ∨ ld st a = 3 := by
  unfold ld
  split
  · exact Or.inl rfl
  · exact Or.inr rfl
def fSa (k : Nat) : Nat → Nat → Prop := fun b j => b = 10 ∨ ((b = 44 + 5 * k ∨ b = 45 + 5 * k) ∧ j < 4)
theorem c_seeAnew {F k : Nat} {st : lS} {m : aM} (hk : k < 40) (hL : LC m st) (hF : 5000 ≤ F) : ∃ m', f_Tab_seeAnew F (42 + 5 * k) m = some (0, m') ∧ (∀ j, j < 4 → m' (44 + 5 * k) j = sN st j (m (43 + 5 * k)) ∧ m' (45 + 5 * k) j = sK st j (m (43 + 5 * k))) ∧ Fr (fSa k) m m' := by
  obtain ⟨u, ds⟩ := hL.1
  obtain ⟨m1, e1, h1, f1⟩ := c_toNew (F := F) (a1 := 42 + 5 * k + 1) (a2 := 42 + 5 * k + 2) ds (by omega) (by omega) (by omega) (by omega)
  obtain ⟨m2, e2, h2, f2⟩ := c_toBeside (F := F) (a1 := 42 + 5 * k + 1) (a2 := 42 + 5 * k + 3) (ds.st (fun b j b1 b2 => f1 b j (by omega))) (by omega) (by omega) (by omega)
  have e43 : 42 + 5 * k + 1 = 43 + 5 * k := by omega
  have e44 : 42 + 5 * k + 2 = 44 + 5 * k := by omega
  have e45 : 42 + 5 * k + 3 = 45 + 5 * k := by omega
  refine ⟨m2, ?_, fun j hj => ⟨?_, ?_⟩, (f1.mono (fun b j hb => by unfold fSa; omega)).tr (f2.mono (fun b j hb => by unfold fSa; omega))⟩
  · unfold f_Tab_seeAnew
    rw [e1, o_b2_some, e2, o_b2_some]
  · rw [f2 _ j (by omega), ← e44, h1 j hj, e43]
  · rw [← e45, h2 j hj, e43]
    have : m1 (43 + 5 * k) = m (43 + 5 * k) := funext fun q => f1 _ _ (by omega)
    rw [this]
theorem c_lead {F k : Nat} {st : lS} {m : aM} (hk : k < 40) (hL : LC m st) (hF : 5000 ≤ F) : ∃ m', f_Tab_lead F (42 + 5 * k) m = some (0, m') ∧ m' (42 + 5 * k) 3 = nI (ld st (m (43 + 5 * k))) ∧ (∀ j, j < 4 → m' (44 + 5 * k) j = sN st j (m (43 + 5 * k)) ∧ m' (45 + 5 * k) j = sK st j (m (43 + 5 * k))) ∧ Fr (fun b j => fSa k b j ∨ (b = 42 + 5 * k ∧ j = 3)) m m' := by
  obtain ⟨m1, e1, h1, f1⟩ := c_seeAnew (F := F) hk hL hF
  have hL1 : LC m1 st := hL.fr (fun b j hb => f1 b j (by unfold fL at hb; unfold fSa; omega))
  obtain ⟨u, ds⟩ := hL1.1
  obtain ⟨m2, e2, f2⟩ := c_isRight (F := F) (a1 := 42 + 5 * k + 2) (a2 := 42 + 5 * k + 3) ds (by omega) (by omega) (by omega)
  have e44 : 42 + 5 * k + 2 = 44 + 5 * k := by omega
  have e45 : 42 + 5 * k + 3 = 45 + 5 * k := by omega
  rw [e44, e45] at e2
  have er : sR st (m1 (45 + 5 * k)) (m1 (44 + 5 * k)) = sR st (fun j => sK st j (m (43 + 5 * k))) (fun j => sN st j (m (43 + 5 * k))) := sR_cg hL.2 (fun j hj => (h1 j hj).2) (fun j hj => (h1 j hj).1)
  rw [er] at e2
  unfold f_Tab_lead ld
  rw [e1, o_b2_some, e44, e45, e2, o_b2_some]
  have fin : ∀ x : Int32, Fr (fun b j => fSa k b j ∨ (b = 42 + 5 * k ∧ j = 3)) m (a_st m2 (42 + 5 * k) 3 x) := fun x => ((f1.mono (fun b j hb => Or.inl hb)).tr (f2.mono (fun b j hb => Or.inl (Or.inl hb)))).st (Or.inr ⟨rfl, rfl⟩)
  have vals : ∀ (x : Int32) j, j < 4 → a_st m2 (42 + 5 * k) 3 x (44 + 5 * k) j = sN st j (m (43 + 5 * k)) ∧ a_st m2 (42 + 5 * k) 3 x (45 + 5 * k) j = sK st j (m (43 + 5 * k)) := fun x j hj => by
    rw [a_st_ne (by omega), a_st_ne (by omega), f2 _ j (by omega), f2 _ j (by omega)]
    exact h1 j hj
  by_cases c : sR st (fun j => sK st j (m (43 + 5 * k))) (fun j => sN st j (m (43 + 5 * k))) = true
  · simp only [if_pos c, show ¬ (1 : Int32) = 0 by decide, if_false, o_let_eq]
    exact ⟨_, rfl, a_st_self, vals 1, fin 1⟩
  · simp only [if_neg c, if_true, o_let_eq]
    exact ⟨_, rfl, a_st_self, vals 3, fin 3⟩
/-- the reference sees a row anew and holds it against the laws -/
def fLd (k : Nat) : Nat → Nat → Prop := fun b j => fSo b j ∨ ((b = 249 ∨ b = 250) ∧ j < 4) ∨ ((b = 8520 + k ∨ b = 8561 + k) ∧ j < 4)
theorem m_lead {F k : Nat} {st : lS} {m : aM} (hk : k < 40) (hL : ML m st) (hF : 5000 ≤ F) : ∃ m1 m2, f_Mod_takesSeen F (nI k) m = some (0, m1) ∧ f_Mod_isRightBy F (8520 + k) (8561 + k) m1 = some (if ld st (m (8479 + k)) = 1 then 1 else 0, m2) ∧ (∀ j, j < 4 → m1 (8520 + k) j = sN st j (m (8479 + k)) ∧ m1 (8561 + k) j = sK st j (m (8479 + k))) ∧ Fr (fLd k) m m1 ∧ Fr (fun b j => fV b j ∨ ((b = 249 ∨ b = 250) ∧ j < 4)) m1 m2 := by
  obtain ⟨m1, e1, h1, f1⟩ := m_takesSeen (F := F) hk hL hF
  have hL1 : ML m1 st := hL.fr (fun b j hb => f1 b j (by unfold fL at hb; unfold fSo fV; omega))
  obtain ⟨m2, e2, f2⟩ := m_isRightBy (F := F) (a1 := 8520 + k) (a2 := 8561 + k) (by omega) (by omega) hL1 hF
  have er : sR st (m1 (8561 + k)) (m1 (8520 + k)) = sR st (fun j => sK st j (m (8479 + k))) (fun j => sN st j (m (8479 + k))) := sR_cg hL (fun j hj => (h1 j hj).2) (fun j hj => (h1 j hj).1)
  rw [er] at e2
  refine ⟨m1, m2, e1, ?_, h1, f1.mono (fun b j hb => by
    rcases hb with hb | hb
    · exact Or.inl hb
    · exact Or.inr (Or.inr hb)), f2⟩
  rw [e2]
  unfold ld
  by_cases c : sR st (fun j => sK st j (m (8479 + k))) (fun j => sN st j (m (8479 + k))) = true
  · simp only [if_pos c, if_true]
  · simp only [if_neg c, show ¬ (3 : Nat) = 1 by decide, if_false]
theorem c_begin_l {F a : Nat} : ∀ (d i N : Nat) (m : aM), i + d = 4 → d < N → (∀ j, j < i → m (a + 1) j = 0) → ∃ m', ll_Row_begin_2 F N a (nI i) m = some (0, m') ∧ (∀ j, j < 4 → m' (a + 1) j = 0) ∧ m' a 3 = 0 ∧ m' a 4 = -1 ∧ m' a 5 = -1 ∧ m' a 6 = -1 ∧ Fr (fun b j => (b = a ∧ 3 ≤ j ∧ j ≤ 6) ∨ ((b = a + 1 ∨ b = a + 2 ∨ b = a + 3) ∧ j < 4)) m m'
  | 0, i, N, m, hd, hN, h => by
    obtain ⟨N, rfl⟩ : ∃ k, N = k + 1 := ⟨N - 1, by omega⟩
    obtain rfl : i = 4 := by omega
    refine ⟨a_st (a_st (a_st (a_st m a 3 0) a 6 (-1)) a 4 (-1)) a 5 (-1), rfl, fun j hj => ?_, ?_, ?_, ?_, ?_, (((Fr.rf.st (by omega)).st (by omega)).st (by omega)).st (by omega)⟩
    · rw [a_st_ne (by omega), a_st_ne (by omega), a_st_ne (by omega), a_st_ne (by omega)]; exact h j hj
    · simp [a_rd]
    · simp [a_rd]
    · simp [a_rd]
    · simp [a_rd]
  | d + 1, i, N, m, hd, hN, h => by
    obtain ⟨N, rfl⟩ : ∃ k, N = k + 1 := ⟨N - 1, by omega⟩
    obtain ⟨m', e, h1, h3, h4, h5, h6, f1⟩ := c_begin_l (F := F) (a := a) d (i + 1) N (a_st (a_st (a_st m (a + 1) i 0) (a + 2) i 0) (a + 3) i 0) (by omega) (by omega) (fun j hj => by
      rw [a_st_ne (by omega), a_st_ne (by omega)]
      by_cases c : j = i
      · rw [c, a_st_self]
      · rw [a_st_no (by omega)]; exact h j (by omega))
    refine ⟨m', ?_, h1, h3, h4, h5, h6, Fr.sto (Fr.sto (Fr.sto f1 (by omega)) (by omega)) (by omega)⟩
    show lb_Row_begin_2 F (ll_Row_begin_2 F N) a (nI i) m = _
    unfold lb_Row_begin_2
    simp only [if_neg (show ¬ (4 : Int32) ≤ nI i from nI_ge (b := 4) (by omega) (by decide)), inb_nI (show i < 4 by omega) (by decide), o_gd_t, o_let_eq, nI_clamp (show i < 2 ^ 31 by omega), nI_1]
    exact e
theorem m_zero_l {F k : Nat} (hk : k < 40) : ∀ (d i N : Nat) (m : aM), i + d = 4 → d < N → (∀ j, j < i → m (8479 + k) j = 0) → ∃ m', ll_Mod_insert_73 F N (nI k) (nI i) m = (if (a_st m' 8475 k 0) 242 45 ≤ 2 then b_Mod_insert_155 F (nI k) (a_st m' 8475 k 0) else o_b2 (f_Mod_takesSeen F (nI k) (a_st m' 8475 k 0)) fun y3 m4 => (if (m4 242 45) = 5 then b_Mod_insert_154 F (nI k) 2 (nI k) m4 else o_b2 (f_Mod_isRightBy F (8520 + k) (8561 + k) m4) fun y7 m8 => (if y7 = 0 then b_Mod_insert_154 F (nI k) 3 (nI k) m8 else b_Mod_insert_154 F (nI k) 1 (nI k) m8))) ∧ (∀ j, j < 4 → m' (8479 + k) j = 0) ∧ Fr (fun b j => b = 8479 + k ∧ j < 4) m m'
  | 0, i, N, m, hd, hN, h => by
    obtain ⟨N, rfl⟩ : ∃ k, N = k + 1 := ⟨N - 1, by omega⟩
    obtain rfl : i = 4 := by omega
    refine ⟨m, ?_, h, Fr.rf⟩
    show lb_Mod_insert_73 F (ll_Mod_insert_73 F N) (nI k) (nI 4) m = _
    unfold lb_Mod_insert_73
    simp only [show (4 : Int32) ≤ nI 4 by decide, if_true, inb_nI hk (by decide), o_gd_t, o_let_eq, nI_clamp (show k < 2 ^ 31 by omega)]
  | d + 1, i, N, m, hd, hN, h => by
    obtain ⟨N, rfl⟩ : ∃ k, N = k + 1 := ⟨N - 1, by omega⟩
    obtain ⟨m', e, h1, f1⟩ := m_zero_l (F := F) hk d (i + 1) N (a_st m (8479 + k) i 0) (by omega) (by omega) (fun j hj => by
      by_cases c : j = i
      · rw [c, a_st_self]
      · rw [a_st_no (by omega)]; exact h j (by omega))
    refine ⟨m', ?_, h1, Fr.sto f1 ⟨rfl, by omega⟩⟩
    show lb_Mod_insert_73 F (ll_Mod_insert_73 F N) (nI k) (nI i) m = _
    unfold lb_Mod_insert_73
    simp only [if_neg (show ¬ (4 : Int32) ≤ nI i from nI_ge (b := 4) (by omega) (by decide)), inb_nI hk (by decide), inb_nI (show i < 4 by omega) (by decide), o_gd_t, o_let_eq, nI_clamp (show i < 2 ^ 31 by omega), nI_clamp (show k < 2 ^ 31 by omega), nI_1]
    exact e
theorem no_m1 {t : Nat} (ht : t ≤ 10000) : ¬ (-1 : Int32) = nI t := fun z => by
  have := congrArg Int32.toInt z
  rw [nI_toInt (by omega)] at this
  have e : (-1 : Int32).toInt = -1 := rfl
  omega
/-- a row that is there newly -/
theorem row_new {m : aM} {k t κ : Nat} (ht : t ≤ 10000) (hκ : κ < 4) (hw : ∀ f, f < 2 → isb (m (46 + 5 * k) f) = true) (h1 : m 8473 k = 1) (h2 : m 8474 k = 0) (h3 : m (42 + 5 * k) 3 = nI κ) (h4 : m 8475 k = nI κ) (h5 : m (42 + 5 * k) 4 = -1) (h6 : m (42 + 5 * k) 5 = -1) (h7 : m (42 + 5 * k) 6 = -1) (h8 : ∀ f, f < 2 → m (8602 + k) f = -1) (h9 : ∀ j, j < 4 → m (43 + 5 * k) j = m (8479 + k) j) (h10 : κ = 1 ∨ κ = 2 → ∀ j, j < 4 → m (44 + 5 * k) j = m (8520 + k) j ∧ m (45 + 5 * k) j = m (8561 + k) j) : rowC m k t := by
  have b1 : bd (-1) (-1) t := ⟨by decide, by have e : (-1 : Int32).toInt = -1 := rfl; omega⟩
  exact ⟨hw, Or.inr ⟨h1, κ, hκ, h3, h4, h9, h10, Or.inl ⟨h2, h5, h6⟩, fun f hf => ⟨⟨fun z => absurd (h7.symm.trans z.1) (no_m1 ht), fun z => absurd ((h8 f hf).symm.trans z) (no_m1 ht)⟩, by rw [h8 f hf]; exact b1⟩, by rw [h7]; exact b1⟩⟩
theorem z_insertI (x : Int32) (F : Nat) (m : aM) (hF : 5000 ≤ F) (h : Iv m) : ZX [IOB] (f_Led_insert F x) (f_Mod_insert F x) m := by
  obtain ⟨t, t1, t2, t3, hr⟩ := h.2.2.2.2.2.2.rw
  obtain ⟨s, s1, s2, s3⟩ := h.2.2.2.2.2.2.sg
  have n9 := h.2.2.2.2.2.2.n9
  obtain ⟨st, hL⟩ := h.2.2.1
  unfold ZX f_Led_insert f_Mod_insert b_Mod_insert_19 f_Tab_addRow
  simp only [z_checkKey, m_isKey, o_let_eq, o_b_some]
  by_cases c : (0 : Int32) ≤ x ∧ x ≤ 39
  case neg =>
    simp only [if_neg c, o_t_inr]
    refine ⟨_, _, rfl, ?_⟩
    simp only [if_true, z_bad1 (show (1 : Int32) ≠ 0 by decide), o_b2_some, show ¬ (1 : Int32) = 0 by decide, if_false]
    exact ⟨_, _, rfl, ⟨0, rfl, a_st_self⟩, (h.f0 th_fr).1, (h.f0 th_fr).2⟩
  obtain ⟨k, k39, rfl⟩ := rng_nat (n := 39) rfl (by decide) c
  have hk : k < 40 := by omega
  have th := (hr k hk).th
  simp only [if_pos c, o_t_inl, c_there hk, o_b_some, show ¬ (1 : Int32) = 0 by decide, if_false, if_neg (nI_pos (show k < 2 ^ 31 by omega)), if_neg (c40 hk)]
  by_cases d : m (42 + 5 * k) 3 = -1
  case neg =>
    simp only [if_neg d, show ¬ (1 : Int32) = 0 by decide, if_false, o_b2_some]
    refine ⟨_, _, rfl, ?_⟩
    have e1 : ¬ a_st m 242 0 0 8473 k = 0 := by rw [a_st_ne (by decide)]; exact fun z => d (th.mpr z)
    simp only [z_bad0, o_b2_some, if_true, inb_nI hk (by decide), o_gd_t, nI_clamp (show k < 2 ^ 31 by omega), if_neg e1]
    exact ⟨_, _, rfl, ⟨a_st_self, rfl⟩, (h.f0 th_fr).1, (h.f0 th_fr).2⟩
  simp only [if_pos d, if_true, inb_nI hk (by decide), o_gd_t, rwp_n hk]
  obtain ⟨m4, e4, b1, b3, b4, b5, b6, f4⟩ := c_begin_l (F := F) (a := 42 + 5 * k) 4 0 F m (by omega) (by omega) (fun j hj => by omega)
  unfold f_Row_begin
  rw [show ll_Row_begin_2 F F (42 + 5 * k) 0 m = _ from e4]
  simp only [o_b2_some]
  have s4 : m4 37 6 = nI s := (f4 _ _ (by omega)).trans s2
  have hL4 : LC m4 st := hL.fr (fun b j hb => f4 b j (by unfold fL at hb; omega))
  rw [s4]
  -- the class's row
  have cls : ∃ κ m9, κ < 4 ∧ (if nI s = 5 then (o_b2 (f_Tab_seeAnew F (42 + 5 * k) m4) fun y5 m6 => some ((a_st m6 (42 + 5 * k) 3 2) (42 + 5 * k) 3, a_st m6 (42 + 5 * k) 3 2)) else if nI s < 3 then some (m4 (42 + 5 * k) 3, m4) else (o_b2 (f_Tab_lead F (42 + 5 * k) m4) fun y8 m9 => some (m9 (42 + 5 * k) 3, m9))) = some (nI κ, m9) ∧ m9 (42 + 5 * k) 3 = nI κ ∧ (s = 5 → κ = 2) ∧ (s < 3 → κ = 0) ∧ (3 ≤ s → s < 5 → κ = ld st (m4 (43 + 5 * k))) ∧ (3 ≤ s → ∀ j, j < 4 → m9 (44 + 5 * k) j = sN st j (m4 (43 + 5 * k)) ∧ m9 (45 + 5 * k) j = sK st j (m4 (43 + 5 * k))) ∧ Fr (fun b j => fSa k b j ∨ (b = 42 + 5 * k ∧ j = 3)) m4 m9 := by
    rcases (show s < 3 ∨ (3 ≤ s ∧ s < 5) ∨ s = 5 by omega) with z | z | z
    · rw [if_neg (show ¬ nI s = 5 from fun q => by have := nI_inj (b := 5) (by omega) (by decide) q; omega), if_pos (show nI s < 3 from nI_lt (b := 3) z (by decide)), b3]
      exact ⟨0, m4, by omega, rfl, b3, fun _ => by omega, fun _ => rfl, fun _ _ => by omega, fun _ => by omega, Fr.rf⟩
    · rw [if_neg (show ¬ nI s = 5 from fun q => by have := nI_inj (b := 5) (by omega) (by decide) q; omega), if_neg (show ¬ nI s < 3 from nI_nlt (b := 3) z.1 (by omega))]
      obtain ⟨m9, e9, h9, v9, f9⟩ := c_lead (F := F) hk hL4 hF
      rw [e9, o_b2_some, h9]
      exact ⟨ld st (m4 (43 + 5 * k)), m9, by have := ld_13 (st := st) (a := m4 (43 + 5 * k)); omega, rfl, h9, fun _ => by omega, fun _ => by omega, fun _ _ => rfl, fun _ => v9, f9⟩
    · subst z
      obtain ⟨m6, e6, v6, f6⟩ := c_seeAnew (F := F) hk hL4 hF
      rw [if_pos (show nI 5 = 5 from rfl), e6, o_b2_some, a_st_self]
      exact ⟨2, a_st m6 (42 + 5 * k) 3 2, by omega, rfl, a_st_self, fun _ => rfl, fun _ => by omega, fun _ _ => by omega, fun _ j hj => by rw [a_st_ne (by omega), a_st_ne (by omega)]; exact v6 j hj, (f6.mono (fun b j hb => Or.inl hb)).st (Or.inr ⟨rfl, rfl⟩)⟩
  obtain ⟨κ, m9, κ4, ec, k3, kA, kB', kC, kV, f9⟩ := cls
  rw [ec]
  simp only [o_b2_some]
  refine ⟨_, _, rfl, ?_⟩
  have fc : Fr (fun b j => b = 10 ∨ (42 + 5 * k ≤ b ∧ b ≤ 45 + 5 * k)) m m9 := (f4.mono (fun b j hb => by omega)).tr (f9.mono (fun b j hb => by unfold fSa at hb; omega))
  have e0 : a_st m9 242 0 0 8473 k = 0 := by rw [a_st_ne (by decide), fc _ _ (by omega)]; exact th.mp d
  simp only [z_bad0, o_b2_some, if_true, nI_clamp (show k < 2 ^ 31 by omega), e0]
  generalize hm : a_st (a_st (a_st (a_st (a_st m9 242 0 0) 8473 k 1) 8474 k 0) (8602 + k) 0 (-1)) (8602 + k) 1 (-1) = mx
  have rx : ∀ b j, mx b j = if b = 8602 + k ∧ j = 1 then -1 else if b = 8602 + k ∧ j = 0 then -1 else if b = 8474 ∧ j = k then 0 else if b = 8473 ∧ j = k then 1 else if b = 242 ∧ j = 0 then 0 else m9 b j := fun b j => by rw [← hm]; simp only [a_rd]
  obtain ⟨my, ey, vy, fy⟩ := m_zero_l (F := F) hk 4 0 F mx (by omega) (by omega) (fun j hj => by omega)
  rw [show ll_Mod_insert_73 F F (nI k) 0 mx = _ from ey]
  generalize hz : a_st my 8475 k 0 = mz
  have rz : ∀ b j, ¬ (b = 8475 ∧ j = k) → ¬ (b = 8479 + k ∧ j < 4) → ¬ (b = 8602 + k ∧ j < 2) → ¬ (b = 8474 ∧ j = k) → ¬ (b = 8473 ∧ j = k) → ¬ (b = 242 ∧ j = 0) → mz b j = m9 b j := fun b j q1 q2 q3 q4 q5 q6 => by rw [← hz, a_st_no q1, fy b j q2, rx, if_neg (by omega), if_neg (by omega), if_neg q4, if_neg q5, if_neg q6]
  have z45 : mz 242 45 = nI s := by rw [rz _ _ (by omega) (by omega) (by omega) (by omega) (by omega) (by omega), fc _ _ (by omega)]; exact s3
  have hLz : ML mz st := hL.2.fr (fun b j hb => by unfold fL at hb; rw [rz b j (by omega) (by omega) (by omega) (by omega) (by omega) (by omega), fc b j (by omega)])
  have z79 : ∀ j, j < 4 → mz (8479 + k) j = 0 := fun j hj => by rw [← hz, a_st_ne (by omega)]; exact vy j hj
  have z43 : ∀ j, j < 4 → m4 (43 + 5 * k) j = 0 := fun j hj => by rw [show 43 + 5 * k = 42 + 5 * k + 1 by omega]; exact b1 j hj
  have agr : ∀ j, j < 4 → mz (8479 + k) j = m4 (43 + 5 * k) j := fun j hj => by rw [z79 j hj, z43 j hj]
  have ldz : ld st (mz (8479 + k)) = ld st (m4 (43 + 5 * k)) := ld_cg hL.2 agr
  -- the reference's row
  have ref : ∃ m2, (if mz 242 45 ≤ 2 then b_Mod_insert_155 F (nI k) mz else o_b2 (f_Mod_takesSeen F (nI k) mz) fun y3 m4 => (if (m4 242 45) = 5 then b_Mod_insert_154 F (nI k) 2 (nI k) m4 else o_b2 (f_Mod_isRightBy F (8520 + k) (8561 + k) m4) fun y7 m8 => (if y7 = 0 then b_Mod_insert_154 F (nI k) 3 (nI k) m8 else b_Mod_insert_154 F (nI k) 1 (nI k) m8))) = some (nI κ, m2) ∧ m2 8475 k = nI κ ∧ (3 ≤ s → ∀ j, j < 4 → m2 (8520 + k) j = sN st j (m4 (43 + 5 * k)) ∧ m2 (8561 + k) j = sK st j (m4 (43 + 5 * k))) ∧ Fr (fun b j => fLd k b j ∨ (b = 8475 ∧ j = k)) mz m2 := by
    have b155 : ∀ (mm : aM) (x : Int32), mm 8475 k = x → b_Mod_insert_155 F (nI k) mm = some (x, mm) := fun mm x hx => by unfold b_Mod_insert_155; rw [inb_nI hk (by decide), o_gd_t, nI_clamp (by omega), hx]
    have b154 : ∀ (mm : aM) (x : Int32), b_Mod_insert_154 F (nI k) x (nI k) mm = some (x, a_st mm 8475 k x) := fun mm x => by unfold b_Mod_insert_154; rw [inb_nI hk (by decide), o_gd_t, o_let_eq, nI_clamp (by omega), b155 _ x a_st_self]
    rw [z45]
    rcases Nat.lt_or_ge s 3 with z | z
    · rw [if_pos (show nI s ≤ 2 from nI_le (b := 2) (by omega) (by decide)), kB' z]
      have : mz 8475 k = 0 := by rw [← hz, a_st_self]
      exact ⟨mz, b155 mz 0 this, this, fun _ => by omega, Fr.rf⟩
    · rw [if_neg (show ¬ nI s ≤ 2 from nI_ge (a := 2) (by omega) (by omega))]
      obtain ⟨n1, n2, g1, g2, gv, gf, gf2⟩ := m_lead (F := F) hk hLz hF
      have vv : ∀ j, j < 4 → n1 (8520 + k) j = sN st j (m4 (43 + 5 * k)) ∧ n1 (8561 + k) j = sK st j (m4 (43 + 5 * k)) := fun j hj => ⟨by rw [(gv j hj).1]; exact sN_cg hL.2 hj agr, by rw [(gv j hj).2]; exact sK_cg hj agr⟩
      rw [g1, o_b2_some, gf 242 45 (by unfold fLd fSo fV; omega), z45]
      rcases Nat.lt_or_ge s 5 with w | w
      · rw [if_neg (show ¬ nI s = 5 from fun q => by have := nI_inj (b := 5) (by omega) (by decide) q; omega), g2, o_b2_some, ldz, kC z w]
        have fr : ∀ x : Int32, Fr (fun b j => fLd k b j ∨ (b = 8475 ∧ j = k)) mz (a_st n2 8475 k x) := fun x => ((gf.mono (fun b j hb => Or.inl hb)).tr (gf2.mono (fun b j hb => Or.inl (hb.elim (fun z => Or.inl (Or.inl z)) (fun z => Or.inr (Or.inl z)))))).st (Or.inr ⟨rfl, rfl⟩)
        have vw : ∀ (x : Int32) j, j < 4 → a_st n2 8475 k x (8520 + k) j = sN st j (m4 (43 + 5 * k)) ∧ a_st n2 8475 k x (8561 + k) j = sK st j (m4 (43 + 5 * k)) := fun x j hj => by
          rw [a_st_ne (by omega), a_st_ne (by omega), gf2 _ _ (by unfold fV; omega), gf2 _ _ (by unfold fV; omega)]; exact vv j hj
        rcases ld_13 (st := st) (a := m4 (43 + 5 * k)) with q | q
        · rw [q]
          simp only [if_true, show ¬ (1 : Int32) = 0 by decide, if_false, b154]
          exact ⟨_, rfl, a_st_self, fun _ => vw 1, fr 1⟩
        · rw [q]
          simp only [show ¬ (3 : Nat) = 1 by decide, if_false, if_true, b154]
          exact ⟨_, rfl, a_st_self, fun _ => vw 3, fr 3⟩
      · obtain rfl : s = 5 := by omega
        rw [if_pos (show nI 5 = 5 from rfl), b154, kA rfl]
        refine ⟨_, rfl, a_st_self, fun _ j hj => ?_, (gf.mono (fun b j hb => Or.inl hb)).st (Or.inr ⟨rfl, rfl⟩)⟩
        rw [a_st_ne (by omega), a_st_ne (by omega)]; exact vv j hj
  obtain ⟨m2, e2, q1, q2, f2⟩ := ref
  rw [e2]
  have to : ∀ b j, ¬ (b = 10 ∨ (42 + 5 * k ≤ b ∧ b ≤ 45 + 5 * k)) → ¬ fLd k b j → ¬ (b = 8475 ∧ j = k) → ¬ (b = 8479 + k ∧ j < 4) → ¬ (b = 8602 + k ∧ j < 2) → ¬ (b = 8474 ∧ j = k) → ¬ (b = 8473 ∧ j = k) → ¬ (b = 242 ∧ j = 0) → m2 b j = m b j := fun b j z1 z2 z3 z4 z5 z6 z7 z8 => by rw [f2 b j (fun q => q.elim z2 z3), rz b j z3 z4 z5 z6 z7 z8, fc b j z1]
  have toz : ∀ b j, ¬ fLd k b j → ¬ (b = 8475 ∧ j = k) → m2 b j = mz b j := fun b j z1 z2 => f2 b j (fun q => q.elim z1 z2)
  have iv := h.ro (m2 := m2) (fun b j hb => by unfold fG sc0 at hb; exact to b j (by omega) (by unfold fLd fSo fV; omega) (by omega) (by omega) (by omega) (by omega) (by omega) (by omega)) (to _ _ (by omega) (by unfold fLd fSo fV; omega) (by omega) (by omega) (by omega) (by omega) (by omega) (by omega)) (to _ _ (by omega) (by unfold fLd fSo fV; omega) (by omega) (by omega) (by omega) (by omega) (by omega) (by omega)) (by rw [to 37 9 (by omega) (by unfold fLd fSo fV; omega) (by omega) (by omega) (by omega) (by omega) (by omega) (by omega), to 242 49 (by omega) (by unfold fLd fSo fV; omega) (by omega) (by omega) (by omega) (by omega) (by omega) (by omega)]; exact n9) t1 t2 t3 (fun q hq => by
    by_cases e : q = k
    · subst e
      have cl : ∀ b j, 42 ≤ b → b ≤ 241 → m2 b j = m9 b j := fun b j b1 b2 => by rw [toz b j (by unfold fLd fSo fV; omega) (by omega), rz b j (by omega) (by omega) (by omega) (by omega) (by omega) (by omega)]
      refine row_new (κ := κ) t1 κ4 (fun f hf => ?_) ?_ ?_ ?_ q1 ?_ ?_ ?_ (fun f hf => ?_) (fun j hj => ?_) (fun hκ j hj => ?_)
      · rw [cl _ _ (by omega) (by omega), fc _ _ (by omega)]; exact (hr q hq).1 f hf
      · rw [toz _ _ (by unfold fLd fSo fV; omega) (by omega), ← hz, a_st_ne (by decide), fy _ _ (by omega), rx, if_neg (by omega), if_neg (by omega), if_neg (by omega), if_pos (by omega)]
      · rw [toz _ _ (by unfold fLd fSo fV; omega) (by omega), ← hz, a_st_ne (by decide), fy _ _ (by omega), rx, if_neg (by omega), if_neg (by omega), if_pos (by omega)]
      · rw [cl _ _ (by omega) (by omega)]; exact k3
      · rw [cl _ _ (by omega) (by omega), f9 _ _ (by unfold fSa; omega)]; exact b4
      · rw [cl _ _ (by omega) (by omega), f9 _ _ (by unfold fSa; omega)]; exact b5
      · rw [cl _ _ (by omega) (by omega), f9 _ _ (by unfold fSa; omega)]; exact b6
      · rw [toz _ _ (by unfold fLd fSo fV; omega) (by omega), ← hz, a_st_ne (by omega), fy _ _ (by omega), rx]
        rcases (show f = 0 ∨ f = 1 by omega) with rfl | rfl
        · rw [if_neg (by omega), if_pos (by omega)]
        · rw [if_pos (by omega)]
      · rw [cl _ _ (by omega) (by omega), f9 _ _ (by unfold fSa; omega), z43 j hj, toz _ _ (by unfold fLd fSo fV; omega) (by omega), z79 j hj]
      · have s3' : 3 ≤ s := by
          rcases Nat.lt_or_ge s 3 with z | z
          · have := kB' z; omega
          · exact z
        rw [cl (44 + 5 * q) j (by omega) (by omega), cl (45 + 5 * q) j (by omega) (by omega), (kV s3' j hj).1, (kV s3' j hj).2, (q2 s3' j hj).1, (q2 s3' j hj).2]
        exact ⟨rfl, rfl⟩
    · exact (hr q hq).fr hq (fun b j hb => to b j (by omega) (by unfold fLd fSo fV; omega) (by omega) (by omega) (by omega) (by omega) (by omega) (by omega)))
  refine ⟨_, _, rfl, ⟨?_, rfl⟩, iv.1, iv.2⟩
  rw [toz _ _ (by unfold fLd fSo fV; omega) (by omega), ← hz, a_st_ne (by decide), fy _ _ (by omega), rx, if_neg (by omega), if_neg (by omega), if_neg (by omega), if_neg (by omega), if_pos (by omega)]
