/-! CALLS: write, the class's half -/
/-- the old letters after a write to the old form -/
def wO0 (st : lS) (κ l : Nat) (v : Int32) (o n b : Nat → Int32) : Nat → Int32 := fun j => if j = l then v else if κ = 2 then sO st j b n else o j
/-- the new letters after a write to the new form, and what lies beside -/
def wN1 (st : lS) (κ l : Nat) (v : Int32) (o n : Nat → Int32) : Nat → Int32 := fun j => if j = l then v else if κ = 1 ∨ κ = 2 then n j else sN st j o
def wB1 (st : lS) (κ : Nat) (o b : Nat → Int32) : Nat → Int32 := fun j => if κ = 1 ∨ κ = 2 then b j else sK st j o
def fWr (k : Nat) : Nat → Nat → Prop := fun b j => b = 10 ∨ ((b = 39 ∨ b = 40 ∨ b = 41 ∨ b = 43 + 5 * k ∨ b = 44 + 5 * k ∨ b = 45 + 5 * k) ∧ j < 4)
theorem c_writeOld {F k κ l : Nat} {v : Int32} {st : lS} {m : aM} (hk : k < 40) (hl : l < 4) (hL : LC m st) (h : m (42 + 5 * k) 3 = nI κ) (hκ : κ < 4) (hF : 5000 ≤ F) : ∃ m', f_Tab_writeOld F (42 + 5 * k) (nI l) v m = some (0, m') ∧ (∀ j, j < 4 → m' (43 + 5 * k) j = wO0 st κ l v (m (43 + 5 * k)) (m (44 + 5 * k)) (m (45 + 5 * k)) j) ∧ (κ = 1 ∨ κ = 2 → ∀ j, j < 4 → m' (44 + 5 * k) j = sN st j (wO0 st κ l v (m (43 + 5 * k)) (m (44 + 5 * k)) (m (45 + 5 * k))) ∧ m' (45 + 5 * k) j = sK st j (wO0 st κ l v (m (43 + 5 * k)) (m (44 + 5 * k)) (m (45 + 5 * k)))) ∧ Fr (fWr k) m m' := by
  obtain ⟨m2, e2, v2, f2⟩ := c_oldAs (F := F) (a := 39) hk (by omega) hL h hκ hF
  unfold f_Tab_writeOld b_Tab_writeOld_25
  simp only [e2, o_b2_some, if_neg (nI_pos (n := l) (by omega)), if_neg (show ¬ (4 : Int32) ≤ nI l from nI_ge (b := 4) hl (by decide)), inb_nI hl (by decide), o_gd_t, o_let_eq, nI_clamp (show l < 2 ^ 31 by omega)]
  obtain ⟨m5, e5, v5, f5⟩ := c_copy 39 (42 + 5 * k + 1) (a_st m2 39 l v)
  have f25 : Fr (fWr k) m m5 := ((f2.mono (fun b j hb => by unfold fWr; omega)).st (by unfold fWr; omega)).tr (f5.mono (fun b j hb => by unfold fWr; omega))
  have o5 : ∀ j, j < 4 → m5 (43 + 5 * k) j = wO0 st κ l v (m (43 + 5 * k)) (m (44 + 5 * k)) (m (45 + 5 * k)) j := fun j hj => by
    rw [show 43 + 5 * k = 42 + 5 * k + 1 by omega, v5 j hj]
    unfold wO0
    by_cases q : j = l
    · rw [if_pos q, q, a_st_self]
    · rw [if_neg q, a_st_no (by omega), v2 j hj, show 42 + 5 * k + 1 = 43 + 5 * k by omega]
  have hL5 : LC m5 st := hL.fr (fun b j hb => f25 b j (by unfold fL at hb; unfold fWr; omega))
  have k5 : m5 (42 + 5 * k) 3 = nI κ := by rw [f25 _ _ (by unfold fWr; omega), h]
  rw [e5, o_b2_some, c_hasNew k5 hκ, o_b_some]
  by_cases c : κ = 1 ∨ κ = 2
  · obtain ⟨m6, e6, v6, f6⟩ := c_seeAnew (F := F) hk hL5 hF
    rw [if_pos c, if_neg (by decide), e6, o_b2_some]
    refine ⟨m6, rfl, fun j hj => ?_, fun _ j hj => ?_, f25.tr (f6.mono (fun b j hb => by unfold fSa at hb; unfold fWr; omega))⟩
    · rw [f6 _ _ (by unfold fSa; omega)]; exact o5 j hj
    · rw [(v6 j hj).1, (v6 j hj).2]
      exact ⟨sN_cg hL.2 hj o5, sK_cg hj o5⟩
  · rw [if_neg c, if_pos rfl]
    exact ⟨m5, rfl, o5, fun z => absurd z c, f25⟩
theorem c_writeNew {F k κ l : Nat} {v : Int32} {st : lS} {m : aM} (hk : k < 40) (hl : l < 4) (hL : LC m st) (h : m (42 + 5 * k) 3 = nI κ) (hκ : κ < 4) (hF : 5000 ≤ F) : ∃ m', f_Tab_writeNew F (42 + 5 * k) (nI l) v m = some (0, m') ∧ (∀ j, j < 4 → m' (43 + 5 * k) j = if κ = 2 then m (43 + 5 * k) j else sO st j (wB1 st κ (m (43 + 5 * k)) (m (45 + 5 * k))) (wN1 st κ l v (m (43 + 5 * k)) (m (44 + 5 * k)))) ∧ (κ = 1 ∨ κ = 2 → ∀ j, j < 4 → m' (44 + 5 * k) j = wN1 st κ l v (m (43 + 5 * k)) (m (44 + 5 * k)) j ∧ m' (45 + 5 * k) j = m (45 + 5 * k) j) ∧ Fr (fWr k) m m' := by
  obtain ⟨m2, e2, v2, f2⟩ := c_newAs (F := F) hk hL h hκ hF
  have hL2 : LC m2 st := hL.fr (fun b j hb => f2 b j (by unfold fL at hb; omega))
  obtain ⟨m4, e4, v4, f4⟩ := c_beside (F := F) hk hL2 (show m2 (42 + 5 * k) 3 = nI κ by rw [f2 _ _ (by omega), h]) hκ hF
  unfold f_Tab_writeNew b_Tab_writeNew_34 b_Tab_writeNew_52
  simp only [e2, e4, o_b2_some, if_neg (nI_pos (n := l) (by omega)), if_neg (show ¬ (4 : Int32) ≤ nI l from nI_ge (b := 4) hl (by decide)), inb_nI hl (by decide), o_gd_t, o_let_eq, nI_clamp (show l < 2 ^ 31 by omega)]
  have f46 : Fr (fWr k) m (a_st m4 40 l v) := ((f2.mono (fun b j hb => by unfold fWr; omega)).tr (f4.mono (fun b j hb => by unfold fWr; omega))).st (by unfold fWr; omega)
  have row4 : ∀ b j, 42 + 5 * k ≤ b → b ≤ 46 + 5 * k → a_st m4 40 l v b j = m b j := fun b j b1 b2 => by rw [a_st_ne (by omega), f4 b j (by omega), f2 b j (by omega)]
  have n40 : ∀ j, j < 4 → a_st m4 40 l v 40 j = wN1 st κ l v (m (43 + 5 * k)) (m (44 + 5 * k)) j := fun j hj => by
    unfold wN1
    by_cases q : j = l
    · rw [if_pos q, q, a_st_self]
    · rw [if_neg q, a_st_no (by omega), f4 _ _ (by omega), v2 j hj]
  have b41 : ∀ j, j < 4 → a_st m4 40 l v 41 j = wB1 st κ (m (43 + 5 * k)) (m (45 + 5 * k)) j := fun j hj => by
    unfold wB1
    rw [a_st_ne (by decide), v4 j hj, f2 (45 + 5 * k) j (by omega), show m2 (43 + 5 * k) = m (43 + 5 * k) from funext fun i => f2 _ _ (by omega)]
  have k6 : a_st m4 40 l v (42 + 5 * k) 3 = nI κ := by rw [row4 _ _ (by omega) (by omega), h]
  have hL6 : LC (a_st m4 40 l v) st := hL.fr (fun b j hb => f46 b j (by unfold fL at hb; unfold fWr; omega))
  rw [c_hasNew k6 hκ, o_b_some]
  -- the new letters are laid
  have s7 : ∃ m7, (if (if κ = 1 ∨ κ = 2 then (1 : Int32) else 0) = 0 then (o_b (f_Row_hasOld (42 + 5 * k) (a_st m4 40 l v)) fun y1 => if y1 = 0 then some (0, a_st m4 40 l v) else o_b2 (f_Len_toOld F 2 40 41 (42 + 5 * k + 1) (a_st m4 40 l v)) fun y2 m3 => some (0, m3)) else o_b2 (f_Tab_copyLetters 40 (42 + 5 * k + 2) (a_st m4 40 l v)) fun y2 m3 => o_b (f_Row_hasOld (42 + 5 * k) m3) fun y1 => if y1 = 0 then some (0, m3) else o_b2 (f_Len_toOld F 2 40 41 (42 + 5 * k + 1) m3) fun y2 m3 => some (0, m3)) = (o_b (f_Row_hasOld (42 + 5 * k) m7) fun y1 => if y1 = 0 then some ((0 : Int32), m7) else o_b2 (f_Len_toOld F 2 40 41 (42 + 5 * k + 1) m7) fun y2 m3 => some (0, m3)) ∧ (κ = 1 ∨ κ = 2 → ∀ j, j < 4 → m7 (44 + 5 * k) j = a_st m4 40 l v 40 j) ∧ Fr (fun b j => b = 44 + 5 * k ∧ j < 4) (a_st m4 40 l v) m7 := by
    by_cases c : κ = 1 ∨ κ = 2
    · obtain ⟨m7, e7, v7, f7⟩ := c_copy 40 (42 + 5 * k + 2) (a_st m4 40 l v)
      refine ⟨m7, ?_, fun _ j hj => ?_, f7.mono (fun b j hb => by omega)⟩
      · rw [if_pos c, if_neg (by decide), e7, o_b2_some]
      · rw [show 44 + 5 * k = 42 + 5 * k + 2 by omega]; exact v7 j hj
    · refine ⟨_, ?_, fun z => absurd z c, Fr.rf⟩
      rw [if_neg c, if_pos rfl]
  obtain ⟨m7, e7, v7, f7⟩ := s7
  rw [e7]
  have k7 : m7 (42 + 5 * k) 3 = nI κ := by rw [f7 _ _ (by omega), k6]
  have f17 : Fr (fWr k) m m7 := f46.tr (f7.mono (fun b j hb => by unfold fWr; omega))
  rw [c_hasOld k7 hκ, o_b_some]
  by_cases c2 : κ = 2
  · rw [if_pos c2, if_pos rfl]
    refine ⟨m7, rfl, fun j hj => ?_, fun z j hj => ⟨?_, ?_⟩, f17⟩
    · rw [if_pos c2, f7 _ _ (by omega), row4 _ _ (by omega) (by omega)]
    · rw [v7 z j hj]; exact n40 j hj
    · rw [f7 _ _ (by omega), row4 _ _ (by omega) (by omega)]
  · have hL7 : LC m7 st := hL6.fr (fun b j hb => f7 b j (by unfold fL at hb; omega))
    obtain ⟨u, ds⟩ := hL7.1
    obtain ⟨m8, e8, v8, f8⟩ := c_toOld (F := F) (a1 := 40) (a2 := 41) (a3 := 42 + 5 * k + 1) ds (by omega) (by omega) (by omega) (by omega) (by omega) (by omega)
    rw [if_neg c2, if_neg (by decide), e8, o_b2_some]
    refine ⟨m8, rfl, fun j hj => ?_, fun z j hj => ⟨?_, ?_⟩, f17.tr (f8.mono (fun b j hb => by unfold fWr; omega))⟩
    · rw [if_neg c2, show 43 + 5 * k = 42 + 5 * k + 1 by omega, v8 j hj]
      refine sO_cg hL.2 hj (fun i hi => ?_) (fun i hi => ?_)
      · rw [f7 _ _ (by omega), b41 i hi, show 42 + 5 * k + 1 = 43 + 5 * k by omega]
      · rw [f7 _ _ (by omega), n40 i hi, show 42 + 5 * k + 1 = 43 + 5 * k by omega]
    · rw [f8 _ _ (by omega), v7 z j hj]; exact n40 j hj
    · rw [f8 _ _ (by omega), f7 _ _ (by omega), row4 _ _ (by omega) (by omega)]
