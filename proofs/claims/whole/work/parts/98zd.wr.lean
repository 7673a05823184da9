/-! CALLS: write, both halves whole -/
def wOf (st : lS) (κ f l : Nat) (v : Int32) (o n b : Nat → Int32) : Nat → Int32 := fun j => if f = 0 then wO0 st κ l v o n b j else if κ = 2 then o j else sO st j (wB1 st κ o b) (wN1 st κ l v o n)
def wNf (st : lS) (κ f l : Nat) (v : Int32) (o n b : Nat → Int32) : Nat → Int32 := fun j => if f = 0 then sN st j (wO0 st κ l v o n b) else wN1 st κ l v o n j
def wBf (st : lS) (κ f l : Nat) (v : Int32) (o n b : Nat → Int32) : Nat → Int32 := fun j => if f = 0 then sK st j (wO0 st κ l v o n b) else b j
theorem k30_iff {κ : Nat} : (k30 κ = 2 ↔ κ = 2) ∧ ((k30 κ = 1 ∨ k30 κ = 2) ↔ (κ = 1 ∨ κ = 2)) ∧ (κ < 4 → k30 κ < 3) ∧ (κ < 4 → (k30 κ = 0 ↔ ¬ (κ = 1 ∨ κ = 2))) := by
  unfold k30
  by_cases c : κ = 3
  · rw [if_pos c]
    omega
  · rw [if_neg c]
    omega
section
variable {st : lS} {κ f l : Nat} {v : Int32} {o n b o' n' b' : Nat → Int32} {m : aM}
theorem wO0_cg (hL : ML m st) (ho : ∀ j, j < 4 → o j = o' j) (hn : κ = 1 ∨ κ = 2 → ∀ j, j < 4 → n j = n' j ∧ b j = b' j) {j : Nat} (hj : j < 4) : wO0 st κ l v o n b j = wO0 st (k30 κ) l v o' n' b' j := by
  unfold wO0
  by_cases c : j = l
  · rw [if_pos c, if_pos c]
  · rw [if_neg c, if_neg c]
    by_cases d : κ = 2
    · rw [if_pos d, if_pos (k30_iff.1.mpr d)]
      exact sO_cg hL hj (fun i hi => (hn (Or.inr d) i hi).2) (fun i hi => (hn (Or.inr d) i hi).1)
    · rw [if_neg d, if_neg (fun z => d (k30_iff.1.mp z))]
      exact ho j hj
theorem wN1_cg (hL : ML m st) (ho : ∀ j, j < 4 → o j = o' j) (hn : κ = 1 ∨ κ = 2 → ∀ j, j < 4 → n j = n' j ∧ b j = b' j) {j : Nat} (hj : j < 4) : wN1 st κ l v o n j = wN1 st (k30 κ) l v o' n' j := by
  unfold wN1
  by_cases c : j = l
  · rw [if_pos c, if_pos c]
  · rw [if_neg c, if_neg c]
    by_cases d : κ = 1 ∨ κ = 2
    · rw [if_pos d, if_pos (k30_iff.2.1.mpr d)]
      exact (hn d j hj).1
    · rw [if_neg d, if_neg (fun z => d (k30_iff.2.1.mp z))]
      exact sN_cg hL hj ho
theorem wB1_cg (ho : ∀ j, j < 4 → o j = o' j) (hn : κ = 1 ∨ κ = 2 → ∀ j, j < 4 → n j = n' j ∧ b j = b' j) {j : Nat} (hj : j < 4) : wB1 st κ o b j = wB1 st (k30 κ) o' b' j := by
  unfold wB1
  by_cases d : κ = 1 ∨ κ = 2
  · rw [if_pos d, if_pos (k30_iff.2.1.mpr d)]
    exact (hn d j hj).2
  · rw [if_neg d, if_neg (fun z => d (k30_iff.2.1.mp z))]
    exact sK_cg hj ho
theorem wf_cg (hL : ML m st) (ho : ∀ j, j < 4 → o j = o' j) (hn : κ = 1 ∨ κ = 2 → ∀ j, j < 4 → n j = n' j ∧ b j = b' j) {j : Nat} (hj : j < 4) : wOf st κ f l v o n b j = wOf st (k30 κ) f l v o' n' b' j ∧ (κ = 1 ∨ κ = 2 → wNf st κ f l v o n b j = wNf st (k30 κ) f l v o' n' b' j ∧ wBf st κ f l v o n b j = wBf st (k30 κ) f l v o' n' b' j) := by
  unfold wOf wNf wBf
  by_cases c : f = 0
  · rw [if_pos c, if_pos c, if_pos c, if_pos c, if_pos c, if_pos c]
    exact ⟨wO0_cg hL ho hn hj, fun _ => ⟨sN_cg hL hj (fun i hi => wO0_cg hL ho hn hi), sK_cg hj (fun i hi => wO0_cg hL ho hn hi)⟩⟩
  · rw [if_neg c, if_neg c, if_neg c, if_neg c, if_neg c, if_neg c]
    refine ⟨?_, fun z => ⟨wN1_cg hL ho hn hj, (hn z j hj).2⟩⟩
    by_cases d : κ = 2
    · rw [if_pos d, if_pos (k30_iff.1.mpr d)]
      exact ho j hj
    · rw [if_neg d, if_neg (fun z => d (k30_iff.1.mp z))]
      exact sO_cg hL hj (fun i hi => wB1_cg ho hn hi) (fun i hi => wN1_cg hL ho hn hi)
end
def fCw (k : Nat) : Nat → Nat → Prop := fun b j => b = 10 ∨ b = 36 ∨ ((b = 39 ∨ b = 40 ∨ b = 41) ∧ j < 4) ∨ (42 + 5 * k ≤ b ∧ b ≤ 46 + 5 * k)
theorem c_wl {F k κ p f l : Nat} {v : Int32} {st : lS} {m : aM} (hk : k < 40) (hp : p < 8) (hf : f < 2) (hl : l < 4) (hL : LC m st) (h : m (42 + 5 * k) 3 = nI κ) (hκ : κ < 4) (hF : 5000 ≤ F) : ∃ m6, b_Tab_writeLetter_54 F (nI p) (nI f) (nI l) v (42 + 5 * k) m = some (1, m6) ∧ Fr (fCw k) m m6 ∧ (m6 (42 + 5 * k) 6 = m 37 7 ∧ m6 (46 + 5 * k) f = 1 ∧ ∀ g, g < 2 → g ≠ f → m6 (46 + 5 * k) g = if m (42 + 5 * k) 6 = m 37 7 then m (46 + 5 * k) g else 0) ∧ (∀ j, m6 36 j = if j = 16 * p + 8 * f + 2 * l + 1 then m 37 7 else m 36 j) ∧ m6 (42 + 5 * k) 3 = nI (k30 κ) ∧ (∀ j, j < 4 → m6 (43 + 5 * k) j = wOf st κ f l v (m (43 + 5 * k)) (m (44 + 5 * k)) (m (45 + 5 * k)) j) ∧ (κ = 1 ∨ κ = 2 → ∀ j, j < 4 → m6 (44 + 5 * k) j = wNf st κ f l v (m (43 + 5 * k)) (m (44 + 5 * k)) (m (45 + 5 * k)) j ∧ m6 (45 + 5 * k) j = wBf st κ f l v (m (43 + 5 * k)) (m (44 + 5 * k)) (m (45 + 5 * k)) j) ∧ (((κ = 1 ∨ κ = 2) ∧ ¬ sR st (wBf st κ f l v (m (43 + 5 * k)) (m (44 + 5 * k)) (m (45 + 5 * k))) (wNf st κ f l v (m (43 + 5 * k)) (m (44 + 5 * k)) (m (45 + 5 * k))) = true) → m6 (42 + 5 * k) 4 = (if m (42 + 5 * k) 4 = -1 then m 37 7 else m (42 + 5 * k) 4) ∧ m6 (42 + 5 * k) 5 = (if m (42 + 5 * k) 4 = -1 then nI p else m (42 + 5 * k) 5)) ∧ (¬ ((κ = 1 ∨ κ = 2) ∧ ¬ sR st (wBf st κ f l v (m (43 + 5 * k)) (m (44 + 5 * k)) (m (45 + 5 * k))) (wNf st κ f l v (m (43 + 5 * k)) (m (44 + 5 * k)) (m (45 + 5 * k))) = true) → m6 (42 + 5 * k) 4 = -1 ∧ m6 (42 + 5 * k) 5 = -1) := by
  obtain ⟨m1, e1, a1, a2, a3, f1⟩ := c_noted (k := k) (f := f) (t := m 37 7) (m := m) hf
  have f37 : m1 37 7 = m 37 7 := f1 _ _ (by omega)
  have n2 : f_Ask_note (nI p) (nI f) (nI l) 1 (m 37 7) m1 = some (0, a_st m1 36 (16 * p + 8 * f + 2 * l + 1) (m 37 7)) := by
    unfold f_Ask_note
    rw [z_slot (w := 1) hp hf hl (Or.inr ⟨by decide, rfl⟩), o_b_some, inb_nI (show 16 * p + 8 * f + 2 * l + 1 < 128 by omega) (by decide), o_gd_t, o_let_eq, nI_clamp (by omega)]
  generalize hi : 16 * p + 8 * f + 2 * l + 1 = i at n2 ⊢
  have f02 : Fr (fCw k) m (a_st m1 36 i (m 37 7)) := (f1.mono (fun b j hb => by unfold fCw; omega)).st (by unfold fCw; omega)
  have let2 : ∀ b j, 43 + 5 * k ≤ b → b ≤ 45 + 5 * k → a_st m1 36 i (m 37 7) b j = m b j := fun b j b1 b2 => by rw [a_st_ne (by omega), f1 b j (by omega)]
  have l43 : a_st m1 36 i (m 37 7) (43 + 5 * k) = m (43 + 5 * k) := funext fun j => let2 _ j (by omega) (by omega)
  have l44 : a_st m1 36 i (m 37 7) (44 + 5 * k) = m (44 + 5 * k) := funext fun j => let2 _ j (by omega) (by omega)
  have l45 : a_st m1 36 i (m 37 7) (45 + 5 * k) = m (45 + 5 * k) := funext fun j => let2 _ j (by omega) (by omega)
  have hL2 : LC (a_st m1 36 i (m 37 7)) st := hL.fr (fun b j hb => f02 b j (by unfold fL at hb; unfold fCw; omega))
  have h2 : a_st m1 36 i (m 37 7) (42 + 5 * k) 3 = nI κ := by rw [a_st_ne (by omega), f1 _ _ (by omega), h]
  -- the letters
  have key : ∃ m4, b_Tab_writeLetter_54 F (nI p) (nI f) (nI l) v (42 + 5 * k) m = b_Tab_writeLetter_107 F (nI p) (42 + 5 * k) m4 ∧ Fr (fWr k) (a_st m1 36 i (m 37 7)) m4 ∧ (∀ j, j < 4 → m4 (43 + 5 * k) j = wOf st κ f l v (m (43 + 5 * k)) (m (44 + 5 * k)) (m (45 + 5 * k)) j) ∧ (κ = 1 ∨ κ = 2 → ∀ j, j < 4 → m4 (44 + 5 * k) j = wNf st κ f l v (m (43 + 5 * k)) (m (44 + 5 * k)) (m (45 + 5 * k)) j ∧ m4 (45 + 5 * k) j = wBf st κ f l v (m (43 + 5 * k)) (m (44 + 5 * k)) (m (45 + 5 * k)) j) := by
    unfold b_Tab_writeLetter_54
    rw [e1, o_b2_some, f37, n2, o_b2_some]
    have hff : f = 0 ∨ f = 1 := by omega
    rcases hff with rfl | rfl
    · obtain ⟨m4, e4, v4, w4, f4⟩ := c_writeOld (F := F) (v := v) hk hl hL2 h2 hκ hF
      rw [l43, l44, l45] at v4 w4
      rw [if_pos (show nI 0 = 0 from rfl), e4, o_b2_some]
      exact ⟨m4, rfl, f4, fun j hj => (v4 j hj).trans (if_pos rfl).symm, fun z j hj => ⟨(w4 z j hj).1.trans (if_pos rfl).symm, (w4 z j hj).2.trans (if_pos rfl).symm⟩⟩
    · obtain ⟨m4, e4, v4, w4, f4⟩ := c_writeNew (F := F) (v := v) hk hl hL2 h2 hκ hF
      rw [l43, l44, l45] at v4 w4
      rw [if_neg (by decide), e4, o_b2_some]
      exact ⟨m4, rfl, f4, fun j hj => (v4 j hj).trans (if_neg (by decide)).symm, fun z j hj => ⟨(w4 z j hj).1.trans (if_neg (by decide)).symm, (w4 z j hj).2.trans (if_neg (by decide)).symm⟩⟩
  obtain ⟨m4, e4, f4, v4, w4⟩ := key
  have f04 : Fr (fCw k) m m4 := f02.tr (f4.mono (fun b j hb => by unfold fWr at hb; unfold fCw; omega))
  have hL4 : LC m4 st := hL.fr (fun b j hb => f04 b j (by unfold fL at hb; unfold fCw; omega))
  have h4 : m4 (42 + 5 * k) 3 = nI κ := by rw [f4 _ _ (by unfold fWr; omega), h2]
  obtain ⟨m6, e6, g1, g2, g3, f6⟩ := c_judge (F := F) (x1 := nI p) hL4 hk h4 hκ hF
  have r4 : ∀ j, m4 (42 + 5 * k) j = m1 (42 + 5 * k) j := fun j => by rw [f4 _ _ (by unfold fWr; omega), a_st_ne (by omega)]
  have r6 : ∀ j, m4 (46 + 5 * k) j = m1 (46 + 5 * k) j := fun j => by rw [f4 _ _ (by unfold fWr; omega), a_st_ne (by omega)]
  have t4 : m4 37 7 = m 37 7 := f04 _ _ (by unfold fCw; omega)
  have sRe : κ = 1 ∨ κ = 2 → sR st (m4 (45 + 5 * k)) (m4 (44 + 5 * k)) = sR st (wBf st κ f l v (m (43 + 5 * k)) (m (44 + 5 * k)) (m (45 + 5 * k))) (wNf st κ f l v (m (43 + 5 * k)) (m (44 + 5 * k)) (m (45 + 5 * k))) := fun z => sR_cg hL.2 (fun j hj => (w4 z j hj).2) (fun j hj => (w4 z j hj).1)
  have q4 : m4 (42 + 5 * k) 4 = m (42 + 5 * k) 4 := by rw [r4, f1 _ _ (by omega)]
  have q5 : m4 (42 + 5 * k) 5 = m (42 + 5 * k) 5 := by rw [r4, f1 _ _ (by omega)]
  refine ⟨m6, e4.trans e6, f04.tr (f6.mono (fun b j hb => by unfold fCw; omega)), ⟨?_, ?_, fun g hg hne => ?_⟩, fun j => ?_, g1, fun j hj => ?_, fun z j hj => ⟨?_, ?_⟩, fun z => ?_, fun z => ?_⟩
  · rw [f6 _ _ (by omega), r4, a1]
  · rw [f6 _ _ (by omega), r6, a2]
  · rw [f6 _ _ (by omega), r6, a3 g hg hne]
  · rw [f6 _ _ (by omega), f4 _ _ (by unfold fWr; omega)]
    by_cases c : j = i
    · rw [if_pos c, c, a_st_self]
    · rw [if_neg c, a_st_no (by omega), f1 _ _ (by omega)]
  · rw [f6 _ _ (by omega), v4 j hj]
  · rw [f6 _ _ (by omega), (w4 z j hj).1]
  · rw [f6 _ _ (by omega), (w4 z j hj).2]
  · have := g2 ⟨z.1, by rw [sRe z.1]; exact z.2⟩
    rw [q4, q5, t4] at this
    exact this
  · refine g3 (fun y => z ⟨y.1, ?_⟩)
    rw [← sRe y.1]
    exact y.2
