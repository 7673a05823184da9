/-! WAYS: the class's steps -/
theorem c_hold {a0 : Nat} {m : aM} {c p n s : Nat} (h : iPl m c p) (hn : n < 216) (hs : s < 11) (h5 : s < 3 → stg n s ≠ 5) : f_Way_holdingOf a0 (nI n) (nI s) m = some (nI (hS m n s)) := by
  obtain ⟨_, _, _, _, _, _, h7, _, h9, _⟩ := h
  have sg := stg6 (n := n) (a := s)
  unfold f_Way_holdingOf hS f_Pla_holdAt f_Pla_priceOf
  by_cases s3 : s < 3
  · have n5 := h5 s3
    have k := h7 s (stg n s) s3 (by omega)
    have e : nI s * 5 + nI (stg n s) = nI (5 * s + stg n s) := by rw [show (5 : Int32) = nI 5 from rfl, nI_mul, nI_add, Nat.mul_comm]
    rw [if_neg (show ¬ (3 : Int32) ≤ nI s from nI_ge (b := 3) s3 (by decide)), if_pos s3, c_stageOf (by omega) (by omega), o_b_some, e, if_neg (nI_pos (by omega)), if_neg (show ¬ (15 : Int32) ≤ nI (5 * s + stg n s) from nI_ge (b := 15) (by omega) (by decide)), inb_nI (show 5 * s + stg n s < 15 by omega) (by decide), o_gd_t, o_let_eq, nI_clamp (by omega), o_b_some, ← (bd_nat k.2).1]
  · rw [if_pos (show (3 : Int32) ≤ nI s from nI_le (a := 3) (by omega) (by omega)), if_neg s3]
    by_cases s6 : s < 6
    · rw [if_neg (show ¬ (6 : Int32) ≤ nI s from nI_ge (b := 6) s6 (by decide)), if_pos s6]
      rfl
    · have k := h9 (s - 6) (by omega)
      rw [if_pos (show (6 : Int32) ≤ nI s from nI_le (a := 6) (by omega) (by omega)), if_neg s6, show nI s - 6 = nI (s - 6) from nI_subn (b := 6) (by omega), if_neg (nI_pos (by omega)), if_neg (show ¬ (5 : Int32) ≤ nI (s - 6) from nI_ge (b := 5) (by omega) (by decide)), inb_nI (show s - 6 < 5 by omega) (by decide), o_gd_t, nI_clamp (by omega), o_b_some, ← (bd_nat k.2).1]
theorem shl5 : ∀ c, c < 4 → ∀ q, q < 5 → (nI (p6 c)) <<< (nI q &&& 31) = nI (p6 c * 2 ^ q) := by decide +kernel
theorem w_bit0 : ∀ w, w < 32 → ∀ q, q < 5 → (((nI w) >>> (nI q &&& 31)) &&& 1 = 0 ↔ w / 2 ^ q % 2 = 0) := by decide +kernel
theorem c_pow {a : Nat} {m : aM} (ha : a < 4) : f_Pla_power (nI a) m = some (nI (p6 a)) := by
  unfold f_Pla_power
  rw [if_neg (nI_pos (by omega)), if_neg (show ¬ (4 : Int32) ≤ nI a from nI_ge (b := 4) ha (by decide)), inb_nI ha (by decide), o_gd_t, nI_clamp (by omega), a_pow_n ha]
theorem c_next {a0 : Nat} {m : aM} {c p n w s : Nat} (h : iPl m c p) (h7 : m a0 7 = nI (p6 c)) (hn : n < 216) (hw : w < 32) (hs : s < 11) : f_Way_nextOf a0 (nI n) (nI w) (nI s) m = some (match stT c p n w s with | none => -1 | some (x, y) => nI (y * p6 c + x)) := by
  obtain ⟨c3, p5, h5, _, h6, _⟩ := h
  have at0 : nI w * nI (p6 c) + nI n = nI (w * p6 c + n) := by rw [nI_mul, nI_add]
  unfold f_Way_nextOf stT
  rw [h5, h6, h7, at0]
  by_cases s6 : s < 6
  · rw [if_pos (show nI s < 6 from nI_lt (b := 6) s6 (by decide)), show nI s % 3 = nI (s % 3) from nI_mod (b := 3) (by omega) (by decide)]
    have hm : s % 3 < 3 := Nat.mod_lt _ (by decide)
    have sg := stg6 (n := n) (a := s % 3)
    have b5 : (5 : Int32) ≤ nI (stg n (s % 3)) ↔ 5 ≤ stg n (s % 3) := nI_leI (a := 5) (by decide) (by omega)
    have b1 : nI (stg n (s % 3)) < 1 ↔ stg n (s % 3) < 1 := nI_ltI (b := 1) (by omega) (by decide)
    by_cases s3 : s < 3
    · have es : s % 3 = s := Nat.mod_eq_of_lt s3
      rw [if_pos s3]
      by_cases k1 : s < c
      · rw [if_pos (show nI (s % 3) < nI c from nI_lt (by omega) (by omega)), c_stageOf (by omega) (by omega), o_b_some, if_neg (show ¬ (3 : Int32) ≤ nI s from nI_ge (b := 3) s3 (by decide))]
        by_cases k2 : stg n s = 5
        · rw [if_pos (b5.mpr (by rw [es]; omega)), if_neg (fun z => z.2 k2)]
        · rw [if_neg (fun z => by have := b5.mp z; rw [es] at this sg; omega), if_pos ⟨k1, k2⟩, c_pow (by omega), o_b_some, o_let_eq, nI_add, es, Nat.add_assoc]
      · rw [if_neg (show ¬ nI (s % 3) < nI c from nI_nlt (by omega) (by omega)), if_neg (fun z => k1 z.1)]
    · have es : s % 3 = s - 3 := by omega
      rw [if_neg s3, if_pos s6]
      by_cases k1 : s - 3 < c
      · rw [if_pos (show nI (s % 3) < nI c from nI_lt (by omega) (by omega)), c_stageOf (by omega) (by omega), o_b_some, if_pos (show (3 : Int32) ≤ nI s from nI_le (a := 3) (by omega) (by omega))]
        by_cases k2 : 1 ≤ stg n (s - 3) ∧ stg n (s - 3) ≤ 4
        · have dn := stg_dn n hn (s - 3) (by omega) k2.1
          rw [if_neg (fun z => by have := b1.mp z; rw [es] at this; omega), if_neg (fun z => by have := b5.mp z; rw [es] at this; omega), if_pos ⟨k1, k2⟩, c_pow (by omega), o_b_some, o_let_eq, es, nI_subn (by omega), Nat.add_sub_assoc dn]
        · rw [if_neg (show ¬ (s - 3 < c ∧ 1 ≤ stg n (s - 3) ∧ stg n (s - 3) ≤ 4) from fun z => k2 z.2)]
          by_cases k3 : stg n (s - 3) < 1
          · rw [if_pos (b1.mpr (by rw [es]; exact k3))]
          · rw [if_neg (fun z => k3 (by have := b1.mp z; rw [es] at this; exact this)), if_pos (b5.mpr (by rw [es]; omega))]
      · rw [if_neg (show ¬ nI (s % 3) < nI c from nI_nlt (by omega) (by omega)), if_neg (fun z => k1 z.1)]
  · have e6 : nI s - 6 = nI (s - 6) := nI_subn (b := 6) (by omega)
    have bt := w_bit0 w hw (s - 6) (by omega)
    rw [if_neg (show ¬ nI s < 6 from nI_nlt (b := 6) (by omega) (by omega)), if_neg (show ¬ s < 3 by omega), if_neg s6, e6]
    unfold b_Way_nextOf_47 b_Way_nextOf_48
    by_cases k1 : s - 6 < p
    · rw [if_neg (show ¬ nI p ≤ nI (s - 6) from nI_ge k1 (by omega)), o_let_eq]
      by_cases k2 : w / 2 ^ (s - 6) % 2 = 0
      · rw [if_pos (bt.mpr k2), if_neg (by decide), if_pos ⟨k1, k2⟩, o_let_eq, h7, shl5 c (by omega) (s - 6) (by omega), nI_add]
        refine congrArg (fun q => some (nI q)) ?_
        show w * p6 c + n + p6 c * 2 ^ (s - 6) = (w + 2 ^ (s - 6)) * p6 c + n
        rw [Nat.add_mul, Nat.mul_comm (p6 c)]
        omega
      · rw [if_neg (fun z => k2 (bt.mp z)), if_pos rfl, if_neg (fun z => k2 z.2)]
    · rw [if_pos (nI_le (by omega) (by omega)), if_pos rfl, if_neg (fun z => k1 z.1)]
