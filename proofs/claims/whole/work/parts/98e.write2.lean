/-! CALLS: write, the class's half: notes and what breaks -/
theorem c_noted {k f : Nat} {t : Int32} {m : aM} (hf : f < 2) : ∃ m', f_Row_noteWritten (42 + 5 * k) (nI f) t m = some (0, m') ∧ m' (42 + 5 * k) 6 = t ∧ m' (46 + 5 * k) f = 1 ∧ (∀ g, g < 2 → g ≠ f → m' (46 + 5 * k) g = if m (42 + 5 * k) 6 = t then m (46 + 5 * k) g else 0) ∧ Fr (fun b j => (b = 42 + 5 * k ∧ j = 6) ∨ (b = 46 + 5 * k ∧ j < 2)) m m' := by
  unfold f_Row_noteWritten b_Row_noteWritten_27
  simp only [if_neg (nI_pos (n := f) (by omega)), if_neg (show ¬ (2 : Int32) ≤ nI f from nI_ge (b := 2) hf (by decide)), inb_nI hf (by decide), o_gd_t, o_let_eq, nI_clamp (show f < 2 ^ 31 by omega), show 42 + 5 * k + 4 = 46 + 5 * k by omega]
  by_cases c : m (42 + 5 * k) 6 = t
  · simp only [if_pos c]
    refine ⟨_, rfl, by rw [a_st_ne (by omega), c], a_st_self, fun g hg hn => a_st_no (by omega), Fr.rf.st (by omega)⟩
  · simp only [if_neg c]
    refine ⟨_, rfl, by rw [a_st_ne (by omega), a_st_self], a_st_self, fun g hg hn => ?_, (((Fr.rf.st (by omega)).st (by omega)).st (by omega)).st (by omega)⟩
    rw [a_st_no (by omega), a_st_ne (by omega)]
    have gg : g = 0 ∨ g = 1 := by omega
    rcases gg with rfl | rfl
    · rw [a_st_no (by omega), a_st_self]
    · rw [a_st_self]
theorem c_isWr {k g : Nat} {t : Int32} {m : aM} (hg : g < 2) (hb : isb (m (46 + 5 * k) g) = true) : f_Row_isWritten (42 + 5 * k) (nI g) t m = some (if m (42 + 5 * k) 6 = t ∧ m (46 + 5 * k) g = 1 then 1 else 0) := by
  unfold f_Row_isWritten
  simp only [if_neg (nI_pos (n := g) (by omega)), if_neg (show ¬ (2 : Int32) ≤ nI g from nI_ge (b := 2) hg (by decide)), inb_nI hg (by decide), o_gd_t, o_let_eq, nI_clamp (show g < 2 ^ 31 by omega), show 42 + 5 * k + 4 = 46 + 5 * k by omega]
  by_cases c : m (42 + 5 * k) 6 = t
  · rw [if_pos c]
    rcases isb_or hb with q | q
    · rw [if_pos q, if_neg (fun z => by have := z.2; rw [q] at this; exact absurd this (by decide))]
    · rw [if_neg (by rw [q]; decide), if_pos ⟨c, q⟩]
  · rw [if_neg c, if_neg (fun z => c z.1)]
def k30 (κ : Nat) : Nat := if κ = 3 then 0 else κ
theorem c_judge {F k κ : Nat} {x1 : Int32} {st : lS} {m : aM} (hL : LC m st) (hk : k < 40) (h : m (42 + 5 * k) 3 = nI κ) (hκ : κ < 4) (hF : 5000 ≤ F) : ∃ m', b_Tab_writeLetter_107 F x1 (42 + 5 * k) m = some (1, m') ∧ m' (42 + 5 * k) 3 = nI (k30 κ) ∧ (((κ = 1 ∨ κ = 2) ∧ ¬ sR st (m (45 + 5 * k)) (m (44 + 5 * k)) = true) → m' (42 + 5 * k) 4 = (if m (42 + 5 * k) 4 = -1 then m 37 7 else m (42 + 5 * k) 4) ∧ m' (42 + 5 * k) 5 = (if m (42 + 5 * k) 4 = -1 then x1 else m (42 + 5 * k) 5)) ∧ (¬ ((κ = 1 ∨ κ = 2) ∧ ¬ sR st (m (45 + 5 * k)) (m (44 + 5 * k)) = true) → m' (42 + 5 * k) 4 = -1 ∧ m' (42 + 5 * k) 5 = -1) ∧ Fr (fun b j => b = 10 ∨ (b = 42 + 5 * k ∧ 3 ≤ j ∧ j ≤ 5)) m m' := by
  have heal : ∀ m1 : aM, b_Tab_writeLetter_163 F (42 + 5 * k) m1 = some (1, a_st (a_st m1 (42 + 5 * k) 4 (-1)) (42 + 5 * k) 5 (-1)) := fun m1 => rfl
  unfold b_Tab_writeLetter_107 b_Tab_writeLetter_122
  by_cases c : κ = 1 ∨ κ = 2
  · have n3 : ¬ m (42 + 5 * k) 3 = 3 := by
      rw [h]
      rcases c with rfl | rfl <;> decide
    have k0 : k30 κ = κ := by unfold k30; rw [if_neg (by omega)]
    have nm : ¬ m (42 + 5 * k) 3 = -1 := by
      rw [h]
      rcases c with rfl | rfl <;> decide
    obtain ⟨u, ds⟩ := hL.1
    obtain ⟨m2, e2, f2⟩ := c_isRight (F := F) (a1 := 42 + 5 * k + 2) (a2 := 42 + 5 * k + 3) ds (by omega) (by omega) (by omega)
    rw [show 42 + 5 * k + 2 = 44 + 5 * k by omega, show 42 + 5 * k + 3 = 45 + 5 * k by omega] at e2
    rw [if_neg n3, c_hasNew h hκ, o_b_some, if_pos c, if_neg (by decide), show 42 + 5 * k + 2 = 44 + 5 * k by omega, show 42 + 5 * k + 3 = 45 + 5 * k by omega, e2, o_b2_some, k0]
    have row2 : ∀ j, m2 (42 + 5 * k) j = m (42 + 5 * k) j := fun j => f2 _ _ (by omega)
    by_cases z : sR st (m (45 + 5 * k)) (m (44 + 5 * k)) = true
    · rw [if_pos z, if_neg (by decide), heal]
      refine ⟨_, rfl, by rw [a_st_no (by omega), a_st_no (by omega), row2, h], fun q => absurd z q.2, fun _ => ⟨by rw [a_st_no (by omega), a_st_self], a_st_self⟩, ((f2.mono (fun b j hb => by omega)).st (by omega)).st (by omega)⟩
    · rw [if_neg z, if_pos rfl]
      unfold f_Row_breakBy f_Row_isBroken
      rw [row2 3, if_neg nm, row2 4, show m2 37 7 = m 37 7 from f2 _ _ (by omega)]
      by_cases y : m (42 + 5 * k) 4 = -1
      · simp only [if_pos y, o_b_some, if_true, o_let_eq, o_b2_some]
        refine ⟨_, rfl, by rw [a_st_no (by omega), a_st_no (by omega), row2, h], fun _ => ⟨by rw [a_st_no (by omega), a_st_self], a_st_self⟩, fun q => absurd ⟨c, z⟩ q, ((f2.mono (fun b j hb => by omega)).st (by omega)).st (by omega)⟩
      · simp only [if_neg y, o_b_some, show ¬ (1 : Int32) = 0 by decide, if_false, o_b2_some]
        exact ⟨_, rfl, by rw [row2, h], fun _ => ⟨row2 4, row2 5⟩, fun q => absurd ⟨c, z⟩ q, f2.mono (fun b j hb => by omega)⟩
  · have fin : ∀ m1 : aM, m1 (42 + 5 * k) 3 = nI (k30 κ) → Fr (fun b j => b = 10 ∨ (b = 42 + 5 * k ∧ 3 ≤ j ∧ j ≤ 5)) m m1 → ∃ m', (o_b (f_Row_hasNew (42 + 5 * k) m1) fun y1 => if y1 = 0 then b_Tab_writeLetter_163 F (42 + 5 * k) m1 else o_b2 (f_Len_isRight F 2 (42 + 5 * k + 2) (42 + 5 * k + 3) m1) fun y2 m3 => if y2 = 0 then o_b2 (f_Row_breakBy (42 + 5 * k) x1 (m3 37 7) m3) fun y4 m5 => some (1, m5) else b_Tab_writeLetter_163 F (42 + 5 * k) m3) = some (1, m') ∧ m' (42 + 5 * k) 3 = nI (k30 κ) ∧ (((κ = 1 ∨ κ = 2) ∧ ¬ sR st (m (45 + 5 * k)) (m (44 + 5 * k)) = true) → m' (42 + 5 * k) 4 = (if m (42 + 5 * k) 4 = -1 then m 37 7 else m (42 + 5 * k) 4) ∧ m' (42 + 5 * k) 5 = (if m (42 + 5 * k) 4 = -1 then x1 else m (42 + 5 * k) 5)) ∧ (¬ ((κ = 1 ∨ κ = 2) ∧ ¬ sR st (m (45 + 5 * k)) (m (44 + 5 * k)) = true) → m' (42 + 5 * k) 4 = -1 ∧ m' (42 + 5 * k) 5 = -1) ∧ Fr (fun b j => b = 10 ∨ (b = 42 + 5 * k ∧ 3 ≤ j ∧ j ≤ 5)) m m' := fun m1 h1 f1 => by
      have kk : k30 κ = 0 := by unfold k30; split <;> omega
      have hn : f_Row_hasNew (42 + 5 * k) m1 = some 0 := by
        rw [c_hasNew (κ := 0) (by rw [h1, kk]) (by decide)]
        rfl
      rw [hn, o_b_some, if_pos rfl, heal]
      exact ⟨_, rfl, by rw [a_st_no (by omega), a_st_no (by omega), h1], fun q => absurd q.1 c, fun _ => ⟨by rw [a_st_no (by omega), a_st_self], a_st_self⟩, (f1.st (by omega)).st (by omega)⟩
    by_cases c3 : κ = 3
    · have e3 : m (42 + 5 * k) 3 = 3 := by rw [h, c3]; rfl
      rw [if_pos e3, o_let_eq]
      exact fin _ (by rw [a_st_self, k30, if_pos c3]; rfl) (Fr.rf.st (by omega))
    · have e3 : ¬ m (42 + 5 * k) 3 = 3 := fun z => c3 (nI_inj (by omega) (by decide) (show nI κ = nI 3 from h.symm.trans z))
      rw [if_neg e3]
      exact fin m (by rw [h, k30, if_neg c3]) Fr.rf
