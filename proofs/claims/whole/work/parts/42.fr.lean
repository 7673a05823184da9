/-! frames -/
def Fr (P : Nat → Nat → Prop) (m m' : aM) : Prop := ∀ b j, ¬ P b j → m' b j = m b j
theorem Fr.rf {P : Nat → Nat → Prop} {m : aM} : Fr P m m := fun _ _ _ => rfl
theorem Fr.st {P : Nat → Nat → Prop} {m m' : aM} {a i : Nat} {x : Int32} (h : Fr P m m') (ha : P a i) : Fr P m (a_st m' a i x) := fun b j hb => by
  rw [a_st_no (fun q => hb (by rw [q.1, q.2]; exact ha))]
  exact h b j hb
theorem Fr.tr {P : Nat → Nat → Prop} {m m1 m2 : aM} (h : Fr P m m1) (h' : Fr P m1 m2) : Fr P m m2 := fun b j hb => (h' b j hb).trans (h b j hb)
theorem Fr.mono {P P' : Nat → Nat → Prop} {m m1 : aM} (h : Fr P m m1) (f : ∀ b j, P b j → P' b j) : Fr P' m m1 := fun b j hb => h b j (fun q => hb (f b j q))
theorem a_rd {m : aM} {a i b j : Nat} {x : Int32} : a_st m a i x b j = if b = a ∧ j = i then x else m b j := by simp [a_st]
/-- tick, with its frame -/
theorem zf_tick (x : Int32) (m : aM) (h : m 37 7 = m 242 46) :
    ∃ r m1, f_Led_tick x m = some (r, m1) ∧ ∃ v m2, f_Mod_tick x m1 = some (v, m2) ∧ Co [IAE, ISE] r v (m2 242 0) ∧ m2 37 7 = m2 242 46 ∧ Fr (fun b j => (b = 37 ∧ j = 7) ∨ (b = 242 ∧ (j = 0 ∨ j = 46))) m m2 := by
  unfold f_Led_tick f_Mod_tick b_Mod_tick_22 b_Mod_tick_47
  simp only [o_let_eq, z_range, z_in, o_b_some]
  by_cases c1 : (0 : Int32) ≤ x ∧ x ≤ 1000
  · simp only [if_pos c1, o_t_inl, z_bad, o_b2_some]
    by_cases c2 : m 37 7 + x ≤ 10000
    · rw [if_pos c2]
      refine ⟨_, _, rfl, ?_⟩
      have c3 : m 242 46 + x ≤ 10000 := by rw [← h]; exact c2
      simp [a_rd, c3, o_b2_some, Co, h]
      exact (((Fr.rf.st (by simp)).st (by simp)).st (by simp))
    · rw [if_neg c2]
      refine ⟨_, _, rfl, ?_⟩
      have c3 : ¬ m 242 46 + x ≤ 10000 := by rw [← h]; exact c2
      simp [a_rd, c3, o_b2_some, Co, h]
      exact ⟨⟨1, rfl, rfl⟩, ((Fr.rf.st (by simp)).st (by simp))⟩
  · simp only [if_neg c1, o_t_inr, z_bad, o_b2_some]
    refine ⟨_, _, rfl, ?_⟩
    simp [a_rd, o_b2_some, Co, h]
    exact ⟨⟨0, rfl, rfl⟩, ((Fr.rf.st (by simp)).st (by simp))⟩
