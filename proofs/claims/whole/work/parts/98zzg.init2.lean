/-! THE FIRST MEMORY 2 -/
theorem i_box (m : aM) : ∃ m', f_Box_init 21 m = some (0, m') ∧ (∀ b j, ¬ (21 ≤ b ∧ b ≤ 28) → m' b j = m b j) ∧ ∀ j, m' 22 j = 0 ∧ m' 23 j = 0 := by
  unfold f_Box_init
  simp only [o_let_eq]
  refine ⟨_, rfl, fun b j hb => ?_, fun j => ⟨?_, ?_⟩⟩
  · rw [zr_no (by omega), zr_no (by omega), zr_no (by omega), zr_no (by omega), zr_no (by omega), zr_no (by omega), zr_no (by omega)]
  · rw [zr_no (by omega), zr_no (by omega), zr_no (by omega), zr_no (by omega), zr_no (by omega), zr_no (by omega)]
    exact zr_at
  · rw [zr_no (by omega), zr_no (by omega), zr_no (by omega), zr_no (by omega), zr_no (by omega)]
    exact zr_at
theorem i_rows {a0 : Nat} : ∀ (n k : Nat) (m : aM), ∃ m', f_Tab_rows a0 n k m = some (0, m') ∧ (∀ b j, ¬ (a0 + 5 + 5 * k ≤ b ∧ b < a0 + 5 + 5 * (k + n)) → m' b j = m b j) ∧ ∀ q, k ≤ q → q < k + n → m' (a0 + 5 + 5 * q) 3 = -1 ∧ ∀ j, m' (a0 + 5 + 5 * q + 4) j = 0
  | 0, k, m => ⟨m, rfl, fun _ _ _ => rfl, fun q h1 h2 => by omega⟩
  | n + 1, k, m => by
    let c := a0 + 5 + 5 * k
    let m4 : aM := a_zr (a_zr (a_zr (a_zr (a_zr m c) (c + 1)) (c + 2)) (c + 3)) (c + 4)
    let m8 : aM := a_st (a_st (a_st (a_st m4 c 3 (-1)) c 4 (-1)) c 5 (-1)) c 6 (-1)
    obtain ⟨m', e, f, r⟩ := i_rows (a0 := a0) n (k + 1) m8
    have f8 : ∀ b j, ¬ (c ≤ b ∧ b ≤ c + 4) → m8 b j = m b j := fun b j hb => by
      simp only [m8, m4]
      rw [a_st_no (by omega), a_st_no (by omega), a_st_no (by omega), a_st_no (by omega), zr_no (by omega), zr_no (by omega), zr_no (by omega), zr_no (by omega), zr_no (by omega)]
    refine ⟨m', ?_, fun b j hb => (f b j (by omega)).trans (f8 b j (by omega)), fun q h1 h2 => ?_⟩
    · show o_let (a_zr m c) (fun m1 => o_b2 (f_Row_init c m1) fun _ m2 => f_Tab_rows a0 n (k + 1) m2) = _
      unfold f_Row_init b_Row_init_32
      simp only [o_let_eq, o_b2_some]
      exact e
    · by_cases q1 : q = k
      · subst q1
        refine ⟨?_, fun j => ?_⟩
        · rw [f _ _ (by omega)]
          show a_st (a_st (a_st (a_st m4 c 3 (-1)) c 4 (-1)) c 5 (-1)) c 6 (-1) c 3 = _
          rw [a_st_no (by omega), a_st_no (by omega), a_st_no (by omega), a_st_self]
        · rw [f _ _ (by omega)]
          show a_st (a_st (a_st (a_st m4 c 3 (-1)) c 4 (-1)) c 5 (-1)) c 6 (-1) (c + 4) j = _
          rw [a_st_no (by omega), a_st_no (by omega), a_st_no (by omega), a_st_no (by omega)]
          exact zr_at
      · exact r q (by omega) (by omega)
theorem i_tab (m : aM) : ∃ m', f_Tab_init 37 m = some (0, m') ∧ (∀ b j, ¬ (37 ≤ b ∧ b ≤ 241) → m' b j = m b j) ∧ (∀ j, m' 37 j = if j = 10 then 10 else m 37 j) ∧ ∀ q, q < 40 → m' (42 + 5 * q) 3 = -1 ∧ ∀ j, m' (46 + 5 * q) j = 0 := by
  obtain ⟨m', e, f, r⟩ := i_rows (a0 := 37) 40 0 (a_zr (a_zr (a_zr (a_zr m (37 + 1)) (37 + 2)) (37 + 3)) (37 + 4))
  unfold f_Tab_init
  simp only [o_let_eq, e, o_b2_some]
  refine ⟨_, rfl, fun b j hb => ?_, fun j => ?_, fun q hq => ?_⟩
  · rw [a_st_no (by omega), f _ _ (by omega), zr_no (by omega), zr_no (by omega), zr_no (by omega), zr_no (by omega)]
  · by_cases c : j = 10
    · rw [c, a_st_self, if_pos rfl]
    · rw [a_st_no (by omega), if_neg c, f _ _ (by omega), zr_no (by omega), zr_no (by omega), zr_no (by omega), zr_no (by omega)]
  · obtain ⟨r1, r2⟩ := r q (by omega) (by omega)
    refine ⟨?_, fun j => ?_⟩
    · rw [a_st_no (by omega)]
      exact r1
    · rw [a_st_no (by omega), show 46 + 5 * q = 37 + 5 + 5 * q + 4 by omega]
      exact r2 j
theorem i_ask0 {F : Nat} (hF : 20000 ≤ F) (m : aM) : ∃ m', f_Ask_init F 35 m = some (0, m') ∧ (∀ b j, ¬ (35 ≤ b ∧ b ≤ 36) → m' b j = m b j) ∧ ∀ j, j < 128 → m' 36 j = -1 := by
  unfold f_Ask_init b_Ask_init_13
  simp only [o_let_eq]
  obtain ⟨m', e, h⟩ := i_ask (F := F) (a0 := 35) 128 0 F (a_zr m (35 + 1)) (by omega) (by omega)
  refine ⟨m', e, fun b j hb => ?_, fun j hj => ?_⟩
  · rw [h, if_neg (by omega), zr_no (by omega)]
  · rw [h, if_pos (by omega)]
/-- LedTables -/
theorem i_led {F : Nat} (hF : 20000 ≤ F) (m : aM) (h0 : ∀ j, m 0 j = 0) : ∃ m', f_Led_init F m = some (0, m') ∧ m' 0 1 = 0 ∧ m' 0 4 = -1 ∧ DS 2 m' stD 8 ∧ (∀ j, m' 22 j = 0 ∧ m' 23 j = 0) ∧ ((∀ j, m' 29 j = if j = 7 then 1 else 0) ∧ (∀ j, j < 15 → m' 30 j = nI (j % 5 + 1)) ∧ (∀ j, m' 31 j = 0) ∧ (∀ j, j < 5 → m' 32 j = 5) ∧ (∀ j, m' 33 j = 0) ∧ ∀ j, m' 34 j = 0) ∧ (∀ j, j < 128 → m' 36 j = -1) ∧ (∀ j, m' 37 j = if j = 10 then 10 else 0) ∧ ∀ q, q < 40 → m' (42 + 5 * q) 3 = -1 ∧ ∀ j, m' (46 + 5 * q) j = 0 := by
  let m2 : aM := a_st (a_zr m 1) 0 1 0
  let m3 : aM := a_zr m2 2
  obtain ⟨m4, e4, f4, d4⟩ := i_len (a0 := 2) hF m3 (fun j => zr_at)
  let m6 : aM := a_zr (a_zr m4 11) 12
  obtain ⟨m7, e7, f7, d7⟩ := i_len (a0 := 12) hF m6 (fun j => zr_at)
  let m9 : aM := a_zr (a_st m7 0 4 (-1)) 21
  obtain ⟨mA, eA, fA, dA⟩ := i_box m9
  let mB : aM := a_zr mA 29
  obtain ⟨mC, eC, fC, dC⟩ := i_pla hF mB
  let mD : aM := a_zr mC 35
  obtain ⟨mE, eE, fE, dE⟩ := i_ask0 hF mD
  let mF : aM := a_zr mE 37
  obtain ⟨mG, eG, fG, dG⟩ := i_tab mF
  have lo : ∀ b j, b < 21 → mG b j = a_st m7 0 4 (-1) b j := fun b j hb => by
    rw [fG _ _ (by omega), show mF b j = mE b j from zr_no (by omega), fE _ _ (by omega), show mD b j = mC b j from zr_no (by omega), fC _ _ (by omega), show mB b j = mA b j from zr_no (by omega), fA _ _ (by omega), show m9 b j = _ from zr_no (by omega)]
  have lo4 : ∀ b j, b < 11 → ¬ (b = 0 ∧ j = 4) → mG b j = m4 b j := fun b j hb n => by
    rw [lo b j (by omega), a_st_no n, f7 _ _ (by omega), show m6 b j = a_zr m4 11 b j from zr_no (by omega), zr_no (by omega)]
  refine ⟨mG, ?_, ?_, ?_, ?_, fun j => ?_, ⟨fun j => ?_, fun j hj => ?_, fun j => ?_, fun j hj => ?_, fun j => ?_, fun j => ?_⟩, fun j hj => ?_, fun j => ?_, dG.2⟩
  · unfold f_Led_init
    simp only [o_let_eq]
    rw [show f_Len_init F 2 (a_zr (a_st (a_zr m 1) 0 1 0) 2) = some (0, m4) from e4, o_b2_some, show f_Len_init F 12 (a_zr (a_zr m4 11) 12) = some (0, m7) from e7, o_b2_some, show f_Box_init 21 (a_zr (a_st m7 0 4 (-1)) 21) = some (0, mA) from eA, o_b2_some, show f_Pla_init F 29 (a_zr mA 29) = some (0, mC) from eC, o_b2_some, show f_Ask_init F 35 (a_zr mC 35) = some (0, mE) from eE, o_b2_some, show f_Tab_init 37 (a_zr mE 37) = some (0, mG) from eG, o_b2_some]
  · rw [lo4 _ _ (by omega) (by omega), f4 _ _ (by omega), show m3 0 1 = m2 0 1 from zr_no (by omega)]
    exact a_st_self
  · rw [lo _ _ (by omega)]
    exact a_st_self
  · have q : ∀ b j, 2 ≤ b ∧ b ≤ 10 → mG b j = m4 b j := fun b j hb => lo4 b j (by omega) (by omega)
    exact d4.gr ((q _ _ (by omega)).trans d4.1) (Nat.le_refl _) d4.2.2.2.2.2.1 (fun j _ => ⟨q _ _ (by omega), q _ _ (by omega)⟩) (fun b j hb => q _ _ (by omega))
  · have q : ∀ b j, 21 ≤ b ∧ b ≤ 28 → mG b j = mA b j := fun b j hb => by
      rw [fG _ _ (by omega), show mF b j = mE b j from zr_no (by omega), fE _ _ (by omega), show mD b j = mC b j from zr_no (by omega), fC _ _ (by omega), show mB b j = mA b j from zr_no (by omega)]
    exact ⟨(q _ _ (by omega)).trans (dA j).1, (q _ _ (by omega)).trans (dA j).2⟩
  all_goals
    have q : ∀ b j, 29 ≤ b ∧ b ≤ 34 → mG b j = mC b j := fun b j hb => by
      rw [fG _ _ (by omega), show mF b j = mE b j from zr_no (by omega), fE _ _ (by omega), show mD b j = mC b j from zr_no (by omega)]
  · rw [q _ _ (by omega), dC.1, show mB 29 j = 0 from zr_at]
  · rw [q _ _ (by omega), dC.2.1 j hj]
  · rw [q _ _ (by omega), dC.2.2.1 j]
  · rw [q _ _ (by omega), dC.2.2.2.1 j hj]
  · rw [q _ _ (by omega), dC.2.2.2.2.1 j]
  · rw [q _ _ (by omega), dC.2.2.2.2.2 j]
  · rw [fG _ _ (by omega), show mF 36 j = mE 36 j from zr_no (by omega), dE j hj]
  · rw [dG.1, show mF 37 j = 0 from zr_at]
