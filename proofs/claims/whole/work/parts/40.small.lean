/-! THE PURE PART, first calls -/
theorem o_let_eq {α β : Type} (x : α) (k : α → β) : o_let x k = k x := rfl
theorem o_gd_t {β : Type} (x : Option β) : o_gd true x = x := rfl
theorem o_b_some {α β : Type} (x : α) (k : α → Option β) : o_b (some x) k = k x := rfl
theorem o_b2_some {α β : Type} (x : α) (m : aM) (k : α → aM → Option β) : o_b2 (some (x, m)) k = k x m := rfl
theorem o_t_inl (x : Int32) (m : aM) (k : Int32 → Option (oX × aM)) : o_t (some (.inl x)) m k = k x := rfl
theorem o_t_inr (E : String) (m : aM) (k : Int32 → Option (oX × aM)) : o_t (some (.inr E)) m k = some (.inr E, m) := rfl
theorem o_tp_inl (x : Int32) (k : Int32 → Option oX) : o_tp (some (.inl x)) k = k x := rfl
theorem o_tp_inr (E : String) (k : Int32 → Option oX) : o_tp (some (.inr E)) k = some (.inr E) := rfl
theorem o_t2_inl (x : Int32) (m : aM) (k : Int32 → aM → Option (oX × aM)) : o_t2 (some (.inl x, m)) k = k x m := rfl
theorem o_t2_inr (E : String) (m : aM) (k : Int32 → aM → Option (oX × aM)) : o_t2 (some (.inr E, m)) k = some (.inr E, m) := rfl
/-- the reference's test of a range -/
theorem z_in (x a b : Int32) (m : aM) : f_Mod_in x a b m = some (if a ≤ x ∧ x ≤ b then 1 else 0) := by
  unfold f_Mod_in
  by_cases h1 : x < a
  · rw [if_pos h1, if_neg (fun h => by rw [i_le, i_le] at h; rw [i_lt] at h1; omega)]
  · rw [if_neg h1]
    by_cases h2 : b < x
    · rw [if_pos h2, if_neg (fun h => by rw [i_le, i_le] at h; rw [i_lt] at h2; omega)]
    · rw [if_neg h2, if_pos (by rw [i_le, i_le]; rw [i_lt] at h1 h2; omega)]
/-- the class's test of a range -/
theorem z_range (x a b : Int32) (m : aM) : f_Led_checkRange x a b m = some (if a ≤ x ∧ x ≤ b then .inl 0 else .inr "java/lang/IllegalArgumentException") := by
  unfold f_Led_checkRange
  by_cases h1 : x < a
  · rw [if_pos h1, if_neg (fun h => by rw [i_le, i_le] at h; rw [i_lt] at h1; omega)]
  · rw [if_neg h1]
    by_cases h2 : x ≤ b
    · rw [if_pos h2, if_pos ⟨by rw [i_le]; rw [i_lt] at h1; omega, h2⟩]
    · rw [if_neg h2, if_neg (fun h => h2 h.2)]
/-- the reference's note of a fault -/
theorem z_bad (x w : Int32) (m : aM) : f_Mod_bad x w m = some (if x = 0 then (if m 242 0 = 0 then 0 else 1, m) else if m 242 0 = 0 then (if w = 0 then 0 else 1, a_st m 242 0 w) else (1, m)) := by
  unfold f_Mod_bad b_Mod_bad_16
  simp only [o_let_eq, a_st_self]
  by_cases h1 : x = 0 <;> by_cases h2 : m 242 0 = 0 <;> by_cases h3 : w = 0 <;> simp [h1, h2, h3]
/-- change -/
theorem z_change (m : aM) (k : Nat) (hk : k ≤ 3) (h1 : m 29 5 = nI k) (h2 : m 242 35 = nI k) :
    ∃ r m1, f_Led_change m = some (r, m1) ∧ ∃ m2, f_Mod_change m1 = some (r, m2) ∧ m2 242 0 = 0 := by
  unfold f_Led_change f_Pla_addChange f_Mod_change
  simp only [o_let_eq]
  rcases Nat.lt_or_ge k 3 with h | h
  · rw [if_pos (by rw [h1]; exact nI_lt (b := 3) h (by decide))]
    refine ⟨_, _, rfl, ?_⟩
    rw [if_neg (by simp [a_st, h2]; exact fun q => by have := congrArg Int32.toInt q; rw [nI_toInt (by omega)] at this; simp at this; omega)]
    refine ⟨_, congrArg some (Prod.ext ?_ rfl), ?_⟩
    · simp [a_st, h1, h2]
    · simp [a_st]
  · obtain rfl : k = 3 := by omega
    rw [if_neg (by rw [h1]; decide)]
    refine ⟨_, _, rfl, ?_⟩
    rw [if_pos (by simp [a_st, h2]; rfl)]
    exact ⟨_, rfl, by simp [a_st]⟩
