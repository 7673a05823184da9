/-! WAYS: what a step holds up -/
def hS (m : aM) (n s : Nat) : Nat := if s < 3 then (m 30 (5 * s + stg n s)).toInt.toNat else if s < 6 then 1 else (m 32 (s - 6)).toInt.toNat
theorem bd_nat {x : Int32} (h : bd x 0 99) : x = nI x.toInt.toNat ∧ x.toInt.toNat ≤ 99 := by
  have h1 := h.1
  have h2 := h.2
  refine ⟨?_, by omega⟩
  apply Int32.toInt_inj.mp
  rw [nI_toInt (by omega)]
  omega
theorem hS_b {m : aM} {c p n s : Nat} (h : iPl m c p) (hs : s < 11) (h5 : s < 3 → stg n s ≠ 5) : hS m n s ≤ 99 := by
  obtain ⟨_, _, _, _, _, _, h7, _, h9, _⟩ := h
  have sg := stg6 (n := n) (a := s)
  unfold hS
  by_cases s3 : s < 3
  · rw [if_pos s3]
    have := h5 s3
    exact (bd_nat (h7 s (stg n s) s3 (by omega)).2).2
  · rw [if_neg s3]
    by_cases s6 : s < 6
    · rw [if_pos s6]; omega
    · rw [if_neg s6]
      exact (bd_nat (h9 (s - 6) (by omega)).2).2
theorem m_cost {m : aM} {c p n s : Nat} (h : iPl m c p) (hn : n < 216) (hs : s < 11) (h5 : s < 3 → stg n s ≠ 5) : f_Mod_costOf (nI n) (nI s) m = some (nI (hS m n s)) := by
  obtain ⟨_, _, _, _, _, _, h7, _, h9, _⟩ := h
  have sg := stg6 (n := n) (a := s)
  unfold f_Mod_costOf hS
  by_cases s3 : s < 3
  · have n5 := h5 s3
    have k := h7 s (stg n s) s3 (by omega)
    rw [if_neg (show ¬ (3 : Int32) ≤ nI s from nI_ge (b := 3) s3 (by decide)), if_pos s3, inb_nI s3 (by decide), o_gd_t, m_stageOf (by omega) s3, o_b_some, inb_nI (show stg n s < 5 by omega) (by decide), o_gd_t, o_let_eq, nI_clamp (by omega), nI_clamp (by omega), ← k.1, ← (bd_nat k.2).1]
  · rw [if_pos (show (3 : Int32) ≤ nI s from nI_le (a := 3) (by omega) (by omega)), if_neg s3]
    by_cases s6 : s < 6
    · rw [if_neg (show ¬ (6 : Int32) ≤ nI s from nI_ge (b := 6) s6 (by decide)), if_pos s6]
      rfl
    · have k := h9 (s - 6) (by omega)
      rw [if_pos (show (6 : Int32) ≤ nI s from nI_le (a := 6) (by omega) (by omega)), if_neg s6, show nI s - 6 = nI (s - 6) from nI_subn (b := 6) (by omega), inb_nI (show s - 6 < 5 by omega) (by decide), o_gd_t, o_let_eq, nI_clamp (by omega), ← k.1, ← (bd_nat k.2).1]
