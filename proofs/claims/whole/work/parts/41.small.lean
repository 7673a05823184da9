/-- the class's answer against the reference's: cs: the exceptions in the order in which the law's helper takes them -/
def Co (cs : List String) (r : oX) (v t : Int32) : Prop := match r with
  | .inl x => t = 0 ∧ x = v
  | .inr E => ∃ i, cs[i]? = some E ∧ t = nI (i + 1)
abbrev IAE : String := "java/lang/IllegalArgumentException"
abbrev ISE : String := "java/lang/IllegalStateException"
abbrev IOB : String := "java/lang/IndexOutOfBoundsException"
abbrev NSE : String := "java/util/NoSuchElementException"
/-- tick -/
theorem z_tick (x : Int32) (m : aM) (h : m 37 7 = m 242 46) :
    ∃ r m1, f_Led_tick x m = some (r, m1) ∧ ∃ v m2, f_Mod_tick x m1 = some (v, m2) ∧ Co [IAE, ISE] r v (m2 242 0) ∧ m2 37 7 = m2 242 46 := by
  unfold f_Led_tick f_Mod_tick b_Mod_tick_22 b_Mod_tick_47
  simp only [o_let_eq, z_range, z_in, o_b_some]
  by_cases c1 : (0 : Int32) ≤ x ∧ x ≤ 1000
  · simp only [if_pos c1, o_t_inl, z_bad, o_b2_some]
    by_cases c2 : m 37 7 + x ≤ 10000
    · rw [if_pos c2]
      refine ⟨_, _, rfl, ?_⟩
      have c3 : m 242 46 + x ≤ 10000 := by rw [← h]; exact c2
      simp [a_st, c3, o_b2_some, Co, h]
    · rw [if_neg c2]
      refine ⟨_, _, rfl, ?_⟩
      have c3 : ¬ m 242 46 + x ≤ 10000 := by rw [← h]; exact c2
      simp [a_st, c3, o_b2_some, Co, h]
      exact ⟨1, rfl, rfl⟩
  · simp only [if_neg c1, o_t_inr, z_bad, o_b2_some]
    refine ⟨_, _, rfl, ?_⟩
    simp [a_st, o_b2_some, Co, h]
    exact ⟨0, rfl, rfl⟩
/-- first -/
theorem z_first (x : Int32) (m : aM) (h : m 37 8 = m 242 47) :
    ∃ r m1, f_Led_first x m = some (r, m1) ∧ ∃ v m2, f_Mod_first x m1 = some (v, m2) ∧ Co [IAE] r v (m2 242 0) ∧ m2 37 8 = m2 242 47 := by
  unfold f_Led_first f_Mod_first b_Mod_first_20
  simp only [o_let_eq, z_range, z_in, o_b_some]
  by_cases c1 : (0 : Int32) ≤ x ∧ x ≤ 1
  · simp only [if_pos c1, o_t_inl, z_bad, o_b2_some]
    refine ⟨_, _, rfl, ?_⟩
    simp [a_st, o_b2_some, Co, h]
  · simp only [if_neg c1, o_t_inr, z_bad, o_b2_some]
    refine ⟨_, _, rfl, ?_⟩
    simp [a_st, o_b2_some, Co, h]
    exact ⟨0, rfl, rfl⟩
