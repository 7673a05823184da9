/-! first, quiet, fall: a number is kept, the one before is the answer -/
theorem zf_first (x : Int32) (m : aM) (h : m 37 8 = m 242 47) :
    ∃ r m1, f_Led_first x m = some (r, m1) ∧ ∃ v m2, f_Mod_first x m1 = some (v, m2) ∧ Co [IAE] r v (m2 242 0) ∧ m2 37 8 = m2 242 47 ∧ Fr (fun b j => (b = 37 ∧ j = 8) ∨ (b = 242 ∧ (j = 0 ∨ j = 47))) m m2 ∧ (r = .inl (m 37 8) ∧ m2 37 8 = x ∧ 0 ≤ x ∧ x ≤ 1 ∨ m2 37 8 = m 37 8) := by
  unfold f_Led_first f_Mod_first b_Mod_first_20
  simp only [o_let_eq, z_range, z_in, o_b_some]
  by_cases c1 : (0 : Int32) ≤ x ∧ x ≤ 1
  · simp only [if_pos c1, o_t_inl, z_bad, o_b2_some]
    refine ⟨_, _, rfl, ?_⟩
    simp [a_rd, o_b2_some, Co, h]
    exact ⟨((Fr.rf.st (by simp)).st (by simp)).st (by simp), Or.inl c1⟩
  · simp only [if_neg c1, o_t_inr, z_bad, o_b2_some]
    refine ⟨_, _, rfl, ?_⟩
    simp [a_rd, o_b2_some, Co, h]
    exact ⟨⟨0, rfl, rfl⟩, (Fr.rf.st (by simp)).st (by simp)⟩
theorem zf_quiet (x : Int32) (m : aM) (h : m 37 10 = m 242 48) :
    ∃ r m1, f_Led_quiet x m = some (r, m1) ∧ ∃ v m2, f_Mod_quiet x m1 = some (v, m2) ∧ Co [IAE] r v (m2 242 0) ∧ m2 37 10 = m2 242 48 ∧ Fr (fun b j => (b = 37 ∧ j = 10) ∨ (b = 242 ∧ (j = 0 ∨ j = 48))) m m2 ∧ (r = .inl (m 37 10) ∧ m2 37 10 = x ∧ 0 ≤ x ∧ x ≤ 1000 ∨ m2 37 10 = m 37 10) := by
  unfold f_Led_quiet f_Mod_quiet b_Mod_quiet_22
  simp only [o_let_eq, z_range, z_in, o_b_some]
  by_cases c1 : (0 : Int32) ≤ x ∧ x ≤ 1000
  · simp only [if_pos c1, o_t_inl, z_bad, o_b2_some]
    refine ⟨_, _, rfl, ?_⟩
    simp [a_rd, o_b2_some, Co, h]
    exact ⟨((Fr.rf.st (by simp)).st (by simp)).st (by simp), Or.inl c1⟩
  · simp only [if_neg c1, o_t_inr, z_bad, o_b2_some]
    refine ⟨_, _, rfl, ?_⟩
    simp [a_rd, o_b2_some, Co, h]
    exact ⟨⟨0, rfl, rfl⟩, (Fr.rf.st (by simp)).st (by simp)⟩
theorem zf_fall (x : Int32) (m : aM) (h : m 37 9 = m 242 49) :
    ∃ r m1, f_Led_fall x m = some (r, m1) ∧ ∃ v m2, f_Mod_fall x m1 = some (v, m2) ∧ Co [IAE] r v (m2 242 0) ∧ m2 37 9 = m2 242 49 ∧ Fr (fun b j => (b = 37 ∧ j = 9) ∨ (b = 242 ∧ (j = 0 ∨ j = 49))) m m2 ∧ (r = .inl (m 37 9) ∧ m2 37 9 = x ∧ 0 ≤ x ∧ x ≤ 40 ∨ m2 37 9 = m 37 9) := by
  unfold f_Led_fall f_Mod_fall b_Mod_fall_21
  simp only [o_let_eq, z_range, z_in, o_b_some]
  by_cases c1 : (0 : Int32) ≤ x ∧ x ≤ 40
  · simp only [if_pos c1, o_t_inl, z_bad, o_b2_some]
    refine ⟨_, _, rfl, ?_⟩
    simp [a_rd, o_b2_some, Co, h]
    exact ⟨((Fr.rf.st (by simp)).st (by simp)).st (by simp), Or.inl c1⟩
  · simp only [if_neg c1, o_t_inr, z_bad, o_b2_some]
    refine ⟨_, _, rfl, ?_⟩
    simp [a_rd, o_b2_some, Co, h]
    exact ⟨⟨0, rfl, rfl⟩, (Fr.rf.st (by simp)).st (by simp)⟩
