theorem nIlt_not_neg {x : Int32} (h0 : (0 : Int32) ≤ x) : ¬ x < 0 := fun h => by rw [i_le] at h0; rw [i_lt] at h; omega
theorem nI_lt_of {x : Int32} {p n : Nat} (h1 : x < nI p) (hp : p ≤ n) (hn : n < 2 ^ 31) : x < Int32.ofNat n := by
  show x < nI n
  rw [i_lt, nI_toInt (by omega)] at h1
  rw [i_lt, nI_toInt hn]
  omega
/-- price -/
theorem zf_price (x y : Int32) (m : aM) (p : Nat) (hp : p ≤ 5) (h1 : m 29 6 = nI p) (h2 : m 242 36 = nI p) (h3 : ∀ j, m 32 j = m 8470 j) :
    ∃ r m1, f_Led_price x y m = some (r, m1) ∧ ∃ v m2, f_Mod_price x y m1 = some (v, m2) ∧ Co [IOB, IAE] r v (m2 242 0) ∧ (∀ j, m2 32 j = m2 8470 j) ∧ Fr (fun b j => b = 32 ∨ (b = 29 ∧ j = 7) ∨ (b = 242 ∧ j = 0) ∨ b = 8470) m m2 ∧ (m2 29 7 = m 29 7 + 1 ∨ m2 29 7 = m 29 7 ∧ ∀ j, m2 32 j = m 32 j) := by
  unfold f_Led_price f_Mod_price b_Mod_price_25 b_Mod_price_48 f_Pla_tellPrice f_Pla_tell
  simp only [o_let_eq, z_range, z_checkProgram, z_in, o_b_some]
  by_cases c1 : (0 : Int32) ≤ x ∧ x < m 29 6
  · have c1' : (0 : Int32) ≤ x ∧ x ≤ nI p - 1 := ⟨c1.1, (le_pred hp).mpr (by rw [← h1]; exact c1.2)⟩
    have hx : x < nI p := by rw [← h1]; exact c1.2
    simp only [if_pos c1, o_t_inl]
    by_cases c2 : (0 : Int32) ≤ y ∧ y ≤ 99
    · simp only [if_pos c2, o_t_inl, if_neg (nIlt_not_neg c1.1), if_pos (nI_lt_of hx hp (by decide)), inb_of c1.1 hx hp (by decide), o_gd_t, o_b2_some]
      refine ⟨_, _, rfl, ?_⟩
      simp [a_rd, h2, c1', c2, z_bad, o_b2_some, inb_of c1.1 hx hp (by decide), o_gd_t, Co, h3]
      exact (((Fr.rf.st (by simp)).st (by simp)).st (by simp)).st (by simp)
    · simp only [if_neg c2, o_t_inr]
      refine ⟨_, _, rfl, ?_⟩
      simp [a_rd, h2, c1', c2, z_bad, o_b2_some, Co, h3]
      exact ⟨⟨1, rfl, rfl⟩, (Fr.rf.st (by simp)).st (by simp)⟩
  · have c1' : ¬ ((0 : Int32) ≤ x ∧ x ≤ nI p - 1) := fun q => c1 ⟨q.1, by rw [h1]; exact (le_pred hp).mp q.2⟩
    simp only [if_neg c1, o_t_inr]
    refine ⟨_, _, rfl, ?_⟩
    simp [a_rd, h2, c1', z_bad, o_b2_some, Co, h3]
    exact ⟨⟨0, rfl, rfl⟩, (Fr.rf.st (by simp)).st (by simp)⟩
