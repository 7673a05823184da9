/-! change, program: one more, if there is room -/
theorem zf_change (m : aM) (k : Nat) (hk : k ≤ 3) (h1 : m 29 5 = nI k) (h2 : m 242 35 = nI k) :
    ∃ r m1, f_Led_change m = some (r, m1) ∧ ∃ m2, f_Mod_change m1 = some (r, m2) ∧ m2 242 0 = 0 ∧ Fr (fun b j => (b = 29 ∧ (j = 5 ∨ j = 7)) ∨ (b = 242 ∧ (j = 0 ∨ j = 35))) m m2 ∧ (k < 3 ∧ m2 29 5 = nI (k + 1) ∧ m2 242 35 = nI (k + 1) ∧ m2 29 7 = m 29 7 + 1 ∨ k = 3 ∧ m2 29 5 = nI k ∧ m2 242 35 = nI k ∧ m2 29 7 = m 29 7) := by
  unfold f_Led_change f_Pla_addChange f_Mod_change
  simp only [o_let_eq]
  have hs : nI k + 1 = nI (k + 1) := (nI_succ k).symm
  rcases Nat.lt_or_ge k 3 with h | h
  · rw [if_pos (by rw [h1]; exact nI_lt (b := 3) h (by decide))]
    refine ⟨_, _, rfl, ?_⟩
    rw [if_neg (by simp [a_st, h2]; exact fun q => by have := congrArg Int32.toInt q; rw [nI_toInt (by omega)] at this; simp at this; omega)]
    refine ⟨_, congrArg some (Prod.ext ?_ rfl), ?_, ?_, Or.inl ⟨h, ?_, ?_, ?_⟩⟩
    · simp [a_rd, h1, h2]
    · simp [a_rd]
    · exact (((Fr.rf.st (by simp)).st (by simp)).st (by simp)).st (by simp)
    · simp [a_rd, h1, hs]
    · simp [a_rd, h2, hs]
    · simp [a_rd]
  · obtain rfl : k = 3 := by omega
    rw [if_neg (by rw [h1]; decide)]
    refine ⟨_, _, rfl, ?_⟩
    rw [if_pos (by simp [a_st, h2]; rfl)]
    refine ⟨_, rfl, by simp [a_rd], Fr.rf.st (by simp), Or.inr ⟨rfl, ?_, ?_, ?_⟩⟩
    · simp [a_rd, h1]
    · simp [a_rd, h2]
    · simp [a_rd]
theorem zf_program (m : aM) (k : Nat) (hk : k ≤ 5) (h1 : m 29 6 = nI k) (h2 : m 242 36 = nI k) :
    ∃ r m1, f_Led_program m = some (r, m1) ∧ ∃ m2, f_Mod_program m1 = some (r, m2) ∧ m2 242 0 = 0 ∧ Fr (fun b j => (b = 29 ∧ (j = 6 ∨ j = 7)) ∨ (b = 242 ∧ (j = 0 ∨ j = 36))) m m2 ∧ (k < 5 ∧ m2 29 6 = nI (k + 1) ∧ m2 242 36 = nI (k + 1) ∧ m2 29 7 = m 29 7 + 1 ∨ k = 5 ∧ m2 29 6 = nI k ∧ m2 242 36 = nI k ∧ m2 29 7 = m 29 7) := by
  unfold f_Led_program f_Pla_addProgram f_Mod_program
  simp only [o_let_eq]
  have hs : nI k + 1 = nI (k + 1) := (nI_succ k).symm
  rcases Nat.lt_or_ge k 5 with h | h
  · rw [if_pos (by rw [h1]; exact nI_lt (b := 5) h (by decide))]
    refine ⟨_, _, rfl, ?_⟩
    rw [if_neg (by simp [a_st, h2]; exact fun q => by have := congrArg Int32.toInt q; rw [nI_toInt (by omega)] at this; simp at this; omega)]
    refine ⟨_, congrArg some (Prod.ext ?_ rfl), ?_, ?_, Or.inl ⟨h, ?_, ?_, ?_⟩⟩
    · simp [a_rd, h1, h2]
    · simp [a_rd]
    · exact (((Fr.rf.st (by simp)).st (by simp)).st (by simp)).st (by simp)
    · simp [a_rd, h1, hs]
    · simp [a_rd, h2, hs]
    · simp [a_rd]
  · obtain rfl : k = 5 := by omega
    rw [if_neg (by rw [h1]; decide)]
    refine ⟨_, _, rfl, ?_⟩
    rw [if_pos (by simp [a_st, h2]; rfl)]
    refine ⟨_, rfl, by simp [a_rd], Fr.rf.st (by simp), Or.inr ⟨rfl, ?_, ?_, ?_⟩⟩
    · simp [a_rd, h1]
    · simp [a_rd, h2]
    · simp [a_rd]
