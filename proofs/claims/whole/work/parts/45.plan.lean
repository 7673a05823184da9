/-! hold, need, price, order: the tables of the plan -/
theorem le_pred {x : Int32} {p : Nat} (hp : p ≤ 5) : x ≤ nI p - 1 ↔ x < nI p := by
  have h : (nI p - 1).toInt = (p : Int) - 1 := by
    match p, hp with
    | 0, _ => rfl
    | 1, _ => rfl
    | 2, _ => rfl
    | 3, _ => rfl
    | 4, _ => rfl
    | 5, _ => rfl
  rw [i_le, i_lt, h, nI_toInt (by omega)]
  omega
theorem z_checkProgram (x : Int32) (m : aM) : f_Led_checkProgram x m = some (if 0 ≤ x ∧ x < m 29 6 then .inl 0 else .inr IOB) := by
  unfold f_Led_checkProgram
  by_cases h1 : x < 0
  · rw [if_pos h1, if_neg (fun h => by rw [i_le] at h; rw [i_lt] at h1; have := h.1; omega)]
  · rw [if_neg h1]
    by_cases h2 : x < m 29 6
    · rw [if_pos h2, if_pos ⟨by rw [i_le]; rw [i_lt] at h1; omega, h2⟩]
    · rw [if_neg h2, if_neg (fun h => h2 h.2)]
theorem inb_of {x : Int32} {p n : Nat} (h0 : 0 ≤ x) (h1 : x < nI p) (hp : p ≤ n) (hn : n < 2 ^ 31) : inb x n = true := by
  rw [inb_iff]
  rw [i_le] at h0
  rw [i_lt, nI_toInt (by omega)] at h1
  have : (0 : Int32).toInt = 0 := rfl
  omega
