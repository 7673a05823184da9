/-! WAYS: the steps -/
/-- where step s leads from node n with w rewritten -/
def stT (c p n w s : Nat) : Option (Nat × Nat) := if s < 3 then (if s < c ∧ stg n s ≠ 5 then some (n + p6 s, w) else none) else if s < 6 then (if s - 3 < c ∧ 1 ≤ stg n (s - 3) ∧ stg n (s - 3) ≤ 4 then some (n - p6 (s - 3), w) else none) else (if s - 6 < p ∧ w / 2 ^ (s - 6) % 2 = 0 then some (n, w + 2 ^ (s - 6)) else none)
theorem w_bit : ∀ w, w < 32 → ∀ q, q < 5 → (((nI w) >>> (nI q &&& 31)) &&& 1 = 1 ↔ w / 2 ^ q % 2 = 1) ∧ (w / 2 ^ q % 2 = 0 → (nI w) ||| ((1 : Int32) <<< (nI q &&& 31)) = nI (w + 2 ^ q) ∧ w + 2 ^ q < 32 ∧ pc5 (w + 2 ^ q) = pc5 w + 1) := by decide +kernel
theorem stg_up : ∀ n, n < 216 → ∀ a, a < 3 → stg n a ≠ 5 → n + p6 a < 216 := by decide +kernel
theorem stg_dn : ∀ n, n < 216 → ∀ a, a < 3 → 1 ≤ stg n a → p6 a ≤ n := by decide +kernel
theorem nI_subn {a b : Nat} (h : b ≤ a) : nI a - nI b = nI (a - b) := by
  have : nI (a - b) + nI b = nI a := by rw [nI_add, Nat.sub_add_cancel h]
  rw [← this, Int32.add_sub_cancel]
theorem m_power {a : Nat} {m : aM} (ha : a < 3) : f_Mod_power (nI a) m = some (nI (p6 a)) := by
  match a, ha with
  | 0, _ => rfl
  | 1, _ => rfl
  | 2, _ => rfl
theorem m_step {c p n w s : Nat} {m : aM} (h : iPl m c p) (hn : n < 216) (hw : w < 32) (hs : s < 11) : f_Mod_stepTo (nI n) (nI w) (nI s) m = some (match stT c p n w s with | none => -1 | some (x, y) => if m 8472 (32 * x + y) = 0 then -1 else nI (32 * x + y)) := by
  obtain ⟨c3, p5, _, h5, _, h6, _⟩ := h
  have fin : ∀ x y, x < 216 → y < 32 → b_Mod_stepTo_122 (nI x) (nI y) m = some (if m 8472 (32 * x + y) = 0 then -1 else nI (32 * x + y)) := fun x y hx hy => by
    have e : (32 : Int32) * nI x + nI y = nI (32 * x + y) := by rw [show (32 : Int32) = nI 32 from rfl, nI_mul, nI_add]
    have ib : inb (nI (32 * x + y)) 6912 = true := inb_nI (by omega) (by decide)
    unfold b_Mod_stepTo_122
    rw [e, ib, o_gd_t, o_let_eq, nI_clamp (by omega)]
    by_cases q : m 8472 (32 * x + y) = 0
    · rw [if_pos q, if_pos q]
    · rw [if_neg q, if_neg q]
  unfold f_Mod_stepTo stT
  rw [h5, h6]
  by_cases s3 : s < 3
  · rw [if_neg (show ¬ (3 : Int32) ≤ nI s from nI_ge (b := 3) s3 (by decide)), if_pos s3]
    by_cases k1 : s < c
    · have s6 := stg6 (n := n) (a := s)
      rw [if_neg (show ¬ nI c ≤ nI s from nI_ge k1 (by omega)), m_stageOf (by omega) s3, o_b_some]
      by_cases k2 : stg n s = 5
      · rw [if_pos (show nI (stg n s) = 5 by rw [k2]; rfl), if_neg (fun z => z.2 k2)]
      · rw [if_neg (show ¬ nI (stg n s) = 5 from fun z => k2 (nI_inj (by omega) (by decide) (show nI (stg n s) = nI 5 from z))), if_pos ⟨k1, k2⟩, m_power s3, o_b_some, nI_add, fin _ _ (stg_up n hn s s3 k2) hw]
    · rw [if_pos (nI_le (by omega) (by omega)), if_neg (fun z => k1 z.1)]
  · rw [if_pos (show (3 : Int32) ≤ nI s from nI_le (a := 3) (by omega) (by omega)), if_neg s3]
    by_cases s6 : s < 6
    · have e3 : nI s - 3 = nI (s - 3) := nI_subn (b := 3) (by omega)
      rw [if_neg (show ¬ (6 : Int32) ≤ nI s from nI_ge (b := 6) s6 (by decide)), if_pos s6, e3]
      by_cases k1 : s - 3 < c
      · have sg := stg6 (n := n) (a := s - 3)
        rw [if_neg (show ¬ nI c ≤ nI (s - 3) from nI_ge k1 (by omega)), m_stageOf (by omega) (by omega), o_b_some, m_in14 sg, o_b_some]
        by_cases k2 : 1 ≤ stg n (s - 3) ∧ stg n (s - 3) ≤ 4
        · rw [if_pos k2, if_neg (by decide), if_pos ⟨k1, k2⟩, m_power (by omega), o_b_some, nI_subn (stg_dn n hn _ (by omega) k2.1), fin _ _ (by omega) hw]
        · rw [if_neg k2, if_pos rfl, if_neg (fun z => k2 z.2)]
      · rw [if_pos (nI_le (by omega) (by omega)), if_neg (fun z => k1 z.1)]
    · have e6 : nI s - 6 = nI (s - 6) := nI_subn (b := 6) (by omega)
      obtain ⟨b1, b2⟩ := w_bit w hw (s - 6) (by omega)
      rw [if_pos (show (6 : Int32) ≤ nI s from nI_le (a := 6) (by omega) (by omega)), if_neg s6, e6]
      by_cases k1 : s - 6 < p
      · rw [if_neg (show ¬ nI p ≤ nI (s - 6) from nI_ge k1 (by omega)), o_let_eq]
        by_cases k2 : w / 2 ^ (s - 6) % 2 = 0
        · rw [if_neg (fun z => by have := b1.mp z; omega), if_pos ⟨k1, k2⟩, o_let_eq, (b2 k2).1, fin _ _ hn (b2 k2).2.1]
        · rw [if_pos (b1.mpr (by omega)), if_neg (fun z => k2 z.2)]
      · rw [if_pos (nI_le (by omega) (by omega)), if_neg (fun z => k1 z.1)]
