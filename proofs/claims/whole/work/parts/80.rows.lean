/-! ROWS: what both do with one, and counts -/
theorem rwp_n {k : Nat} (h : k < 40) : rwp (nI k) = 42 + 5 * k := by
  unfold rwp
  rw [nI_clamp (by omega)]
theorem c_alike_l {F a0 a1 : Nat} {m : aM} : ∀ (d i N : Nat), i + d = 4 → d < N → ∃ y, ll_Led_areAlike_11 F N a0 a1 (nI i) m = some y ∧ (y = 0 ∨ y = 1) ∧ (y = 1 ↔ ∀ j, i ≤ j → j < 4 → m a0 j = m a1 j)
  | 0, i, N, hd, hN => by
    obtain ⟨N, rfl⟩ : ∃ k, N = k + 1 := ⟨N - 1, by omega⟩
    obtain rfl : i = 4 := by omega
    exact ⟨1, rfl, Or.inr rfl, fun _ j h1 h2 => by omega, fun _ => rfl⟩
  | d + 1, i, N, hd, hN => by
    obtain ⟨N, rfl⟩ : ∃ k, N = k + 1 := ⟨N - 1, by omega⟩
    have e0 : ll_Led_areAlike_11 F (N + 1) a0 a1 (nI i) m = lb_Led_areAlike_11 F (ll_Led_areAlike_11 F N) a0 a1 (nI i) m := rfl
    rw [e0]
    unfold lb_Led_areAlike_11
    simp only [if_neg (show ¬ (4 : Int32) ≤ nI i from nI_ge (b := 4) (by omega) (by decide)), inb_nI (show i < 4 by omega) (by decide), o_gd_t, nI_clamp (show i < 2 ^ 31 by omega), nI_1]
    by_cases c : m a0 i = m a1 i
    · rw [if_pos c]
      obtain ⟨y, e, y1, y2⟩ := c_alike_l (F := F) (a0 := a0) (a1 := a1) (m := m) d (i + 1) N (by omega) (by omega)
      refine ⟨y, e, y1, fun hy j j1 j2 => ?_, fun h => y2.mpr (fun j j1 j2 => h j (by omega) j2)⟩
      by_cases z : j = i
      · rw [z]; exact c
      · exact y2.mp hy j (by omega) j2
    · rw [if_neg c]
      exact ⟨0, rfl, Or.inl rfl, fun h => absurd h (by decide), fun h => absurd (h i (Nat.le_refl _) (by omega)) c⟩
theorem c_alike {F a0 a1 : Nat} {m : aM} (hF : 10 ≤ F) : ∃ y, f_Led_areAlike F a0 a1 m = some y ∧ (y = 0 ∨ y = 1) ∧ (y = 1 ↔ ∀ j, j < 4 → m a0 j = m a1 j) := by
  obtain ⟨y, e, y1, y2⟩ := c_alike_l (F := F) (a0 := a0) (a1 := a1) (m := m) 4 0 F (by omega) (by omega)
  exact ⟨y, e, y1, fun h j hj => y2.mp h j (by omega) hj, fun h => y2.mpr (fun j _ hj => h j hj)⟩
/-- the reference sees a row -/
def fSo : Nat → Nat → Prop := fun b j => fV b j ∨ ((b = 249 ∨ b = 251 ∨ b = 256) ∧ j < 4)
theorem m_seesOf_l {F k : Nat} {st : lS} (hk : k < 40) (hF : 5000 ≤ F) : ∀ (d i N : Nat) (m : aM), i + d = 4 → d < N → ML m st → (∀ j, j < i → m 249 j = m (8479 + k) j ∧ m 256 j = sK st j (m (8479 + k))) → ∃ m', ll_Mod_seesOf_2 F N (nI k) (nI i) m = some (0, m') ∧ (∀ j, j < 4 → m' 249 j = m (8479 + k) j ∧ m' 256 j = sK st j (m (8479 + k)) ∧ m' 251 j = sN st j (m (8479 + k))) ∧ Fr fSo m m'
  | 0, i, N, m, hd, hN, hL, h => by
    obtain ⟨N, rfl⟩ : ∃ k, N = k + 1 := ⟨N - 1, by omega⟩
    obtain rfl : i = 4 := by omega
    obtain ⟨m', e, h1, f1⟩ := m_sees (F := F) hL hF
    refine ⟨m', ?_, fun j hj => ⟨?_, ?_, ?_⟩, f1.mono (fun b j hb => by
      rcases hb with hb | hb
      · exact Or.inl hb
      · exact Or.inr ⟨by omega, hb.2⟩)⟩
    · show lb_Mod_seesOf_2 F (ll_Mod_seesOf_2 F N) (nI k) (nI 4) m = _
      unfold lb_Mod_seesOf_2
      rw [if_pos (by decide), e, o_b2_some]
    · rw [f1 249 j (by simp [fV])]; exact (h j hj).1
    · rw [f1 256 j (by simp [fV])]; exact (h j hj).2
    · rw [h1 j hj]; exact sN_cg hL hj (fun q hq => (h q hq).1)
  | d + 1, i, N, m, hd, hN, hL, h => by
    obtain ⟨N, rfl⟩ : ∃ k, N = k + 1 := ⟨N - 1, by omega⟩
    have f0 : Fr fSo m (a_st (a_st m 249 i (m (8479 + k) i)) 256 i (sK st i (m (8479 + k)))) := (Fr.rf.st (by unfold fSo; omega)).st (by unfold fSo; omega)
    have q1 : a_st (a_st m 249 i (m (8479 + k) i)) 256 i (sK st i (m (8479 + k))) (8479 + k) = m (8479 + k) := by rw [a_st_ne (by omega), a_st_ne (by omega)]
    have hL1 : ML (a_st m 249 i (m (8479 + k) i)) st := hL.fr (fun b j hb => by rw [a_st_ne (by unfold fL at hb; omega)])
    obtain ⟨m', e, h1, f1⟩ := m_seesOf_l hk hF d (i + 1) N (a_st (a_st m 249 i (m (8479 + k) i)) 256 i (sK st i (m (8479 + k)))) (by omega) (by omega) (hL1.fr (fun b j hb => by rw [a_st_ne (by unfold fL at hb; omega)])) (fun j hj => by
      rw [q1]
      by_cases c : j = i
      · rw [c, a_st_self, a_st_ne (by decide), a_st_self]; exact ⟨rfl, rfl⟩
      · rw [a_st_ne (by decide), a_st_no (by omega), a_st_no (by omega), a_st_ne (by decide)]; exact h j (by omega))
    rw [q1] at h1
    refine ⟨m', ?_, h1, f0.tr f1⟩
    show lb_Mod_seesOf_2 F (ll_Mod_seesOf_2 F N) (nI k) (nI i) m = _
    unfold lb_Mod_seesOf_2 b_Mod_seesOf_46
    have q2 : a_st m 249 i (m (8479 + k) i) (8479 + k) i = m (8479 + k) i := by rw [a_st_ne (by omega)]
    simp only [if_neg (show ¬ (4 : Int32) ≤ nI i from nI_ge (b := 4) (by omega) (by decide)), inb_nI hk (by decide), inb_nI (show i < 4 by omega) (by decide), o_gd_t, o_let_eq, nI_clamp (show i < 2 ^ 31 by omega), nI_clamp (show k < 2 ^ 31 by omega), m_isKept hL1 (show i < 4 by omega), o_b_some, nI_1, q2]
    rw [← e]
    unfold sK
    by_cases c : st.2.1 i = true
    · simp only [if_pos c, show ¬ (1 : Int32) = 0 by decide, if_false]
    · simp only [if_neg c, if_true]
theorem m_seesOf {F k : Nat} {st : lS} {m : aM} (hk : k < 40) (hL : ML m st) (hF : 5000 ≤ F) : ∃ m', f_Mod_seesOf F (nI k) m = some (0, m') ∧ (∀ j, j < 4 → m' 249 j = m (8479 + k) j ∧ m' 256 j = sK st j (m (8479 + k)) ∧ m' 251 j = sN st j (m (8479 + k))) ∧ Fr fSo m m' := m_seesOf_l hk hF 4 0 F m (by omega) (by omega) hL (fun j hj => by omega)
/-- the reference takes what is seen -/
theorem m_takes_l {F k : Nat} (hk : k < 40) : ∀ (d i N : Nat) (m : aM), i + d = 4 → d < N → (∀ j, j < i → m (8520 + k) j = m 251 j ∧ m (8561 + k) j = m 256 j) → ∃ m', ll_Mod_takesSeen_7 F N (nI k) (nI i) m = some (0, m') ∧ (∀ j, j < 4 → m' (8520 + k) j = m 251 j ∧ m' (8561 + k) j = m 256 j) ∧ Fr (fun b j => (b = 8520 + k ∨ b = 8561 + k) ∧ j < 4) m m'
  | 0, i, N, m, hd, hN, h => by
    obtain ⟨N, rfl⟩ : ∃ k, N = k + 1 := ⟨N - 1, by omega⟩
    obtain rfl : i = 4 := by omega
    exact ⟨m, rfl, h, Fr.rf⟩
  | d + 1, i, N, m, hd, hN, h => by
    obtain ⟨N, rfl⟩ : ∃ k, N = k + 1 := ⟨N - 1, by omega⟩
    have q1 : a_st (a_st m (8520 + k) i (m 251 i)) (8561 + k) i (m 256 i) 251 = m 251 := by rw [a_st_ne (by omega), a_st_ne (by omega)]
    have q2 : a_st (a_st m (8520 + k) i (m 251 i)) (8561 + k) i (m 256 i) 256 = m 256 := by rw [a_st_ne (by omega), a_st_ne (by omega)]
    obtain ⟨m', e, h1, f1⟩ := m_takes_l (F := F) hk d (i + 1) N (a_st (a_st m (8520 + k) i (m 251 i)) (8561 + k) i (m 256 i)) (by omega) (by omega) (fun j hj => by
      rw [q1, q2]
      by_cases c : j = i
      · rw [c, a_st_self, a_st_ne (by omega), a_st_self]; exact ⟨rfl, rfl⟩
      · rw [a_st_ne (by omega), a_st_no (by omega), a_st_no (by omega), a_st_ne (by omega)]; exact h j (by omega))
    rw [q1, q2] at h1
    refine ⟨m', ?_, h1, Fr.sto (Fr.sto f1 ⟨by omega, by omega⟩) ⟨by omega, by omega⟩⟩
    show lb_Mod_takesSeen_7 F (ll_Mod_takesSeen_7 F N) (nI k) (nI i) m = _
    unfold lb_Mod_takesSeen_7
    have q3 : a_st m (8520 + k) i (m 251 i) 256 i = m 256 i := by rw [a_st_ne (by omega)]
    simp only [if_neg (show ¬ (4 : Int32) ≤ nI i from nI_ge (b := 4) (by omega) (by decide)), inb_nI hk (by decide), inb_nI (show i < 4 by omega) (by decide), o_gd_t, o_let_eq, nI_clamp (show i < 2 ^ 31 by omega), nI_clamp (show k < 2 ^ 31 by omega), nI_1, q3]
    exact e
theorem m_takesSeen {F k : Nat} {st : lS} {m : aM} (hk : k < 40) (hL : ML m st) (hF : 5000 ≤ F) : ∃ m', f_Mod_takesSeen F (nI k) m = some (0, m') ∧ (∀ j, j < 4 → m' (8520 + k) j = sN st j (m (8479 + k)) ∧ m' (8561 + k) j = sK st j (m (8479 + k))) ∧ Fr (fun b j => fSo b j ∨ ((b = 8520 + k ∨ b = 8561 + k) ∧ j < 4)) m m' := by
  obtain ⟨m1, e1, h1, f1⟩ := m_seesOf (F := F) hk hL hF
  obtain ⟨m2, e2, h2, f2⟩ := m_takes_l (F := F) hk 4 0 F m1 (by omega) (by omega) (fun j hj => by omega)
  refine ⟨m2, ?_, fun j hj => ⟨by rw [(h2 j hj).1]; exact (h1 j hj).2.2, by rw [(h2 j hj).2]; exact (h1 j hj).2.1⟩, (f1.mono (fun b j hb => Or.inl hb)).tr (f2.mono (fun b j hb => Or.inr hb))⟩
  unfold f_Mod_takesSeen
  rw [e1, o_b2_some]
  exact e2
/-- the reference's test of laws over two rows -/
theorem m_rb_l {F a1 a2 : Nat} {st : lS} (h1 : 250 < a1) (h2 : 250 < a2) (hF : 5000 ≤ F) : ∀ (d i N : Nat) (m : aM), i + d = 4 → d < N → ML m st → (∀ j, j < i → m 250 j = m a1 j ∧ m 249 j = m a2 j) → ∃ m', ll_Mod_isRightBy_2 F N a1 a2 (nI i) m = some (if sR st (m a2) (m a1) = true then 1 else 0, m') ∧ Fr (fun b j => fV b j ∨ ((b = 249 ∨ b = 250) ∧ j < 4)) m m'
  | 0, i, N, m, hd, hN, hL, h => by
    obtain ⟨N, rfl⟩ : ∃ k, N = k + 1 := ⟨N - 1, by omega⟩
    obtain rfl : i = 4 := by omega
    obtain ⟨m', e, f1⟩ := m_isRight (F := F) hL hF
    refine ⟨m', ?_, f1.mono (fun b j hb => Or.inl hb)⟩
    show lb_Mod_isRightBy_2 F (ll_Mod_isRightBy_2 F N) a1 a2 (nI 4) m = _
    unfold lb_Mod_isRightBy_2
    rw [if_pos (by decide), e, o_b2_some, sR_cg hL (fun j hj => (h j hj).2) (fun j hj => (h j hj).1)]
    by_cases c : sR st (m a2) (m a1) = true
    · rw [if_pos c]; rfl
    · rw [if_neg c]; rfl
  | d + 1, i, N, m, hd, hN, hL, h => by
    obtain ⟨N, rfl⟩ : ∃ k, N = k + 1 := ⟨N - 1, by omega⟩
    have q1 : a_st (a_st m 250 i (m a1 i)) 249 i (m a2 i) a1 = m a1 := by rw [a_st_ne (by omega), a_st_ne (by omega)]
    have q2 : a_st (a_st m 250 i (m a1 i)) 249 i (m a2 i) a2 = m a2 := by rw [a_st_ne (by omega), a_st_ne (by omega)]
    obtain ⟨m', e, f1⟩ := m_rb_l h1 h2 hF d (i + 1) N (a_st (a_st m 250 i (m a1 i)) 249 i (m a2 i)) (by omega) (by omega) (hL.fr (fun b j hb => by unfold fL at hb; rw [a_st_ne (by omega), a_st_ne (by omega)])) (fun j hj => by
      rw [q1, q2]
      by_cases c : j = i
      · rw [c, a_st_self, a_st_ne (by decide), a_st_self]; exact ⟨rfl, rfl⟩
      · rw [a_st_ne (by decide), a_st_no (by omega), a_st_no (by omega), a_st_ne (by decide)]; exact h j (by omega))
    rw [q1, q2] at e
    refine ⟨m', ?_, Fr.sto (Fr.sto f1 (Or.inr ⟨Or.inl rfl, by omega⟩)) (Or.inr ⟨Or.inr rfl, by omega⟩)⟩
    show lb_Mod_isRightBy_2 F (ll_Mod_isRightBy_2 F N) a1 a2 (nI i) m = _
    unfold lb_Mod_isRightBy_2
    have q3 : a_st m 250 i (m a1 i) a2 i = m a2 i := by rw [a_st_ne (by omega)]
    simp only [if_neg (show ¬ (4 : Int32) ≤ nI i from nI_ge (b := 4) (by omega) (by decide)), inb_nI (show i < 4 by omega) (by decide), o_gd_t, o_let_eq, nI_clamp (show i < 2 ^ 31 by omega), nI_1, q3]
    exact e
theorem m_isRightBy {F a1 a2 : Nat} {st : lS} {m : aM} (h1 : 250 < a1) (h2 : 250 < a2) (hL : ML m st) (hF : 5000 ≤ F) : ∃ m', f_Mod_isRightBy F a1 a2 m = some (if sR st (m a2) (m a1) = true then 1 else 0, m') ∧ Fr (fun b j => fV b j ∨ ((b = 249 ∨ b = 250) ∧ j < 4)) m m' := m_rb_l h1 h2 hF 4 0 F m (by omega) (by omega) hL (fun j hj => by omega)
/-! whether a row is odd -/
def odP (m : aM) (st : lS) (k : Nat) : Prop := m (42 + 5 * k) 3 = 1 ∧ ¬ ∀ j, j < 4 → sN st j (m (43 + 5 * k)) = m (44 + 5 * k) j
theorem c_isOdd {F k : Nat} {st : lS} {m : aM} (hk : k < 40) (hL : LC m st) (hF : 5000 ≤ F) : ∃ y m', f_Tab_isOdd F (42 + 5 * k) m = some (y, m') ∧ (y = 0 ∨ y = 1) ∧ (y = 1 ↔ odP m st k) ∧ Fr (fun b j => b = 10 ∨ (b = 40 ∧ j < 4)) m m' := by
  unfold f_Tab_isOdd
  by_cases c : m (42 + 5 * k) 3 = 1
  · obtain ⟨u, ds⟩ := hL.1
    obtain ⟨m1, e1, h1, f1⟩ := c_toNew (F := F) (a1 := 42 + 5 * k + 1) (a2 := 40) ds (by omega) (by omega) (by omega) (by omega)
    obtain ⟨y, e2, y1, y2⟩ := c_alike (F := F) (a0 := 40) (a1 := 42 + 5 * k + 2) (m := m1) (by omega)
    have key : (∀ j, j < 4 → m1 40 j = m1 (42 + 5 * k + 2) j) ↔ ∀ j, j < 4 → sN st j (m (43 + 5 * k)) = m (44 + 5 * k) j := by
      have z : ∀ j, j < 4 → (m1 40 j = sN st j (m (43 + 5 * k)) ∧ m1 (42 + 5 * k + 2) j = m (44 + 5 * k) j) := fun j hj => ⟨by rw [h1 j hj, show 42 + 5 * k + 1 = 43 + 5 * k by omega], by rw [f1 _ j (by omega), show 42 + 5 * k + 2 = 44 + 5 * k by omega]⟩
      exact ⟨fun h j hj => by rw [← (z j hj).1, ← (z j hj).2]; exact h j hj, fun h j hj => by rw [(z j hj).1, (z j hj).2]; exact h j hj⟩
    rw [if_pos c, e1, o_b2_some, e2, o_b_some]
    rcases y1 with rfl | rfl
    · rw [if_pos rfl]
      exact ⟨1, m1, rfl, Or.inr rfl, ⟨fun _ => ⟨c, fun z => absurd (y2.mpr (key.mpr z)) (by decide)⟩, fun _ => rfl⟩, f1⟩
    · rw [if_neg (by decide)]
      exact ⟨0, m1, rfl, Or.inl rfl, ⟨fun h => absurd h (by decide), fun h => absurd (key.mp (y2.mp rfl)) h.2⟩, f1⟩
  · rw [if_neg c]
    exact ⟨0, m, rfl, Or.inl rfl, ⟨fun h => absurd h (by decide), fun h => absurd h.1 c⟩, Fr.rf⟩
theorem m_isOdd_l {F k : Nat} {m : aM} (hk : k < 40) : ∀ (d i N : Nat), i + d = 4 → d < N → ∃ y, ll_Mod_isOdd_28 F N (nI k) (nI i) m = some (y, m) ∧ (y = 0 ∨ y = 1) ∧ (y = 0 ↔ ∀ j, i ≤ j → j < 4 → m 251 j = m (8520 + k) j)
  | 0, i, N, hd, hN => by
    obtain ⟨N, rfl⟩ : ∃ k, N = k + 1 := ⟨N - 1, by omega⟩
    obtain rfl : i = 4 := by omega
    exact ⟨0, rfl, Or.inl rfl, fun _ j h1 h2 => by omega, fun _ => rfl⟩
  | d + 1, i, N, hd, hN => by
    obtain ⟨N, rfl⟩ : ∃ k, N = k + 1 := ⟨N - 1, by omega⟩
    have e0 : ll_Mod_isOdd_28 F (N + 1) (nI k) (nI i) m = lb_Mod_isOdd_28 F (ll_Mod_isOdd_28 F N) (nI k) (nI i) m := rfl
    rw [e0]
    unfold lb_Mod_isOdd_28
    simp only [if_neg (show ¬ (4 : Int32) ≤ nI i from nI_ge (b := 4) (by omega) (by decide)), inb_nI hk (by decide), inb_nI (show i < 4 by omega) (by decide), o_gd_t, o_let_eq, nI_clamp (show i < 2 ^ 31 by omega), nI_clamp (show k < 2 ^ 31 by omega), nI_1]
    by_cases c : m 251 i = m (8520 + k) i
    · rw [if_pos c]
      obtain ⟨y, e, y1, y2⟩ := m_isOdd_l (F := F) (m := m) hk d (i + 1) N (by omega) (by omega)
      refine ⟨y, e, y1, fun hy j j1 j2 => ?_, fun h => y2.mpr (fun j j1 j2 => h j (by omega) j2)⟩
      by_cases z : j = i
      · rw [z]; exact c
      · exact y2.mp hy j (by omega) j2
    · rw [if_neg c]
      exact ⟨1, rfl, Or.inr rfl, fun h => absurd h (by decide), fun h => absurd (h i (Nat.le_refl _) (by omega)) c⟩
theorem m_isOdd {F k t : Nat} {st : lS} {m : aM} (hk : k < 40) (hr : rw m k t) (hL : ML m st) (hF : 5000 ≤ F) : ∃ y m', f_Mod_isOdd F (nI k) m = some (y, m') ∧ (y = 0 ∨ y = 1) ∧ (y = 1 ↔ odP m st k) ∧ Fr fSo m m' := by
  unfold f_Mod_isOdd
  rw [inb_nI hk (by decide), o_gd_t, nI_clamp (by omega)]
  rcases hr.2 with ⟨h1, h2⟩ | ⟨h1, κ, k4, h3, h4, h5, h6, _⟩
  · rw [if_pos h1]
    exact ⟨0, m, rfl, Or.inl rfl, ⟨fun h => absurd h (by decide), fun h => by have := h.1; rw [h2] at this; exact absurd this (by decide)⟩, Fr.rf⟩
  · rw [if_neg (by rw [h1]; decide), o_gd_t, h4]
    by_cases c : κ = 1
    · subst c
      rw [if_pos (show nI 1 = 1 from rfl)]
      obtain ⟨m1, e1, q1, f1⟩ := m_seesOf (F := F) hk hL hF
      obtain ⟨y, e2, y1, y2⟩ := m_isOdd_l (F := F) (m := m1) hk 4 0 F (by omega) (by omega)
      rw [e1, o_b2_some]
      refine ⟨y, m1, e2, y1, ?_, f1⟩
      have key : (∀ j, 0 ≤ j → j < 4 → m1 251 j = m1 (8520 + k) j) ↔ ∀ j, j < 4 → sN st j (m (43 + 5 * k)) = m (44 + 5 * k) j := by
        have z : ∀ j, j < 4 → (m1 251 j = sN st j (m (43 + 5 * k)) ∧ m1 (8520 + k) j = m (44 + 5 * k) j) := fun j hj => ⟨by rw [(q1 j hj).2.2]; exact sN_cg hL hj (fun q hq => (h5 q hq).symm), by rw [f1 _ j (by unfold fSo fV; omega)]; exact ((h6 (Or.inl rfl)) j hj).1.symm⟩
        exact ⟨fun h j hj => by rw [← (z j hj).1, ← (z j hj).2]; exact h j (by omega) hj, fun h j _ hj => by rw [(z j hj).1, (z j hj).2]; exact h j hj⟩
      rcases y1 with rfl | rfl
      · exact ⟨fun h => absurd h (by decide), fun h => absurd (key.mp (y2.mp rfl)) h.2⟩
      · exact ⟨fun _ => ⟨h3, fun z => absurd (y2.mpr (key.mpr z)) (by decide)⟩, fun _ => rfl⟩
    · have c1 : ¬ nI κ = 1 := fun z => c (nI_inj (b := 1) (by omega) (by decide) z)
      rw [if_neg c1]
      exact ⟨0, m, rfl, Or.inl rfl, ⟨fun h => absurd h (by decide), fun h => by have := h.1; rw [h3] at this; exact absurd this c1⟩, Fr.rf⟩
