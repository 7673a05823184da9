/-! CALLS: the plan -/
def fP : Nat → Nat → Prop := fun b j => (b = 29 ∧ 5 ≤ j ∧ j ≤ 7) ∨ (30 ≤ b ∧ b ≤ 34) ∨ (b = 242 ∧ (j = 0 ∨ j = 35 ∨ j = 36)) ∨ (8453 ≤ b ∧ b ≤ 8470)
theorem Iv.pl {m m2 : aM} (h : Iv m) (f : Fr fP m m2) (hp : iP m2) (ha : m2 29 7 = m 29 7 + 1 ∨ ∀ b j, (b = 29 ∧ (j = 5 ∨ j = 6 ∨ j = 7)) ∨ (30 ≤ b ∧ b ≤ 34) → m2 b j = m b j) : Iv m2 ∧ AgP m m2 := by
  obtain ⟨a1, a2, a3, a4, a5, a6, a7⟩ := h
  exact ⟨⟨a1.fr (fun b j hb => f b j (by unfold fP; omega)), a2.fr (fun b j hb => f b j (by unfold fP; omega)), a3.fr (fun b j hb => f b j (by unfold fL at hb; unfold fP; omega)), a4.fr (fun b j hb => f b j (by unfold fP; omega)), hp, a6.fr (fun b j hb => f b j (by unfold fP; omega)), a7.fr (fun b j hb => f b j (by unfold fP; omega))⟩, ha, fun b j hb => f b j (by unfold fP; omega)⟩
theorem z_changeI (m : aM) (h : Iv m) : ZN f_Led_change f_Mod_change m := by
  obtain ⟨c, p, hp⟩ := h.2.2.2.2.1
  obtain ⟨r, m1, e1, m2, e2, t0, f, q⟩ := zf_change m c hp.1 hp.2.2.1 hp.2.2.2.1
  have fr : Fr fP m m2 := f.mono (fun b j hb => by unfold fP; omega)
  obtain ⟨h1, h2, h3, h4, h5, h6, h7, h8, h9, h10, h11⟩ := hp
  have key : ∀ c', c' ≤ 3 → c ≤ c' → m2 29 5 = nI c' → m2 242 35 = nI c' → iP m2 := fun c' k1 k2 k3 k4 => by
    refine ⟨c', p, k1, h2, k3, k4, (f _ _ (by omega)).trans h5, (f _ _ (by omega)).trans h6, fun a s ha hs => ?_, fun q a hq ha => ?_, fun q hq => ?_, fun a b ha hb => ?_, fun a b ha hb => ?_⟩
    · rw [f 30 _ (by omega), f (8453 + a) _ (by omega)]; exact h7 a s ha hs
    · rw [f 31 _ (by omega), f (8457 + q) _ (by omega)]; exact h8 q a hq ha
    · rw [f 32 _ (by omega), f 8470 _ (by omega)]; exact h9 q hq
    · rw [f 33 _ (by omega), f (8463 + a) _ (by omega)]
      obtain ⟨z1, z2, z3⟩ := h10 a b ha hb
      exact ⟨z1, z2, fun z => by have := z3 z; omega⟩
    · rw [f 34 _ (by omega), f (8467 + a) _ (by omega), f 34 _ (by omega)]
      obtain ⟨z1, z2, z3⟩ := h11 a b ha hb
      exact ⟨z1, fun z => by have := z2 z; omega, z3⟩
  rcases q with ⟨c3, q1, q2, q3⟩ | ⟨c3, q1, q2, q3⟩
  · have iv := h.pl fr (key (c + 1) (by omega) (by omega) q1 q2) (Or.inl q3)
    exact ⟨r, m1, e1, m2, e2, iv.1, iv.2⟩
  · have iv := h.pl fr (key c (by omega) (by omega) q1 q2) (Or.inr (fun b j hb => by
      rcases hb with ⟨rfl, rfl | rfl | rfl⟩ | hb
      · rw [q1, h3]
      · exact f _ _ (by omega)
      · exact q3
      · exact f _ _ (by omega)))
    exact ⟨r, m1, e1, m2, e2, iv.1, iv.2⟩
theorem z_programI (m : aM) (h : Iv m) : ZN f_Led_program f_Mod_program m := by
  obtain ⟨c, p, hp⟩ := h.2.2.2.2.1
  obtain ⟨r, m1, e1, m2, e2, t0, f, q⟩ := zf_program m p hp.2.1 hp.2.2.2.2.1 hp.2.2.2.2.2.1
  have fr : Fr fP m m2 := f.mono (fun b j hb => by unfold fP; omega)
  obtain ⟨h1, h2, h3, h4, h5, h6, h7, h8, h9, h10, h11⟩ := hp
  have key : ∀ p', p' ≤ 5 → m2 29 6 = nI p' → m2 242 36 = nI p' → iP m2 := fun p' k1 k3 k4 => by
    refine ⟨c, p', h1, k1, (f _ _ (by omega)).trans h3, (f _ _ (by omega)).trans h4, k3, k4, fun a s ha hs => ?_, fun q a hq ha => ?_, fun q hq => ?_, fun a b ha hb => ?_, fun a b ha hb => ?_⟩
    · rw [f 30 _ (by omega), f (8453 + a) _ (by omega)]; exact h7 a s ha hs
    · rw [f 31 _ (by omega), f (8457 + q) _ (by omega)]; exact h8 q a hq ha
    · rw [f 32 _ (by omega), f 8470 _ (by omega)]; exact h9 q hq
    · rw [f 33 _ (by omega), f (8463 + a) _ (by omega)]; exact h10 a b ha hb
    · rw [f 34 _ (by omega), f (8467 + a) _ (by omega), f 34 _ (by omega)]; exact h11 a b ha hb
  rcases q with ⟨c3, q1, q2, q3⟩ | ⟨c3, q1, q2, q3⟩
  · have iv := h.pl fr (key (p + 1) (by omega) q1 q2) (Or.inl q3)
    exact ⟨r, m1, e1, m2, e2, iv.1, iv.2⟩
  · have iv := h.pl fr (key p (by omega) q1 q2) (Or.inr (fun b j hb => by
      rcases hb with ⟨rfl, rfl | rfl | rfl⟩ | hb
      · exact f _ _ (by omega)
      · rw [q1, h5]
      · exact q3
      · exact f _ _ (by omega)))
    exact ⟨r, m1, e1, m2, e2, iv.1, iv.2⟩
theorem z_checkChange (x : Int32) (m : aM) : f_Led_checkChange x m = some (if 0 ≤ x ∧ x < m 29 5 then .inl 0 else .inr NSE) := by
  unfold f_Led_checkChange
  by_cases h1 : x < 0
  · rw [if_pos h1, if_neg (fun h => by rw [i_le] at h; rw [i_lt] at h1; have := h.1; omega)]
  · rw [if_neg h1]
    by_cases h2 : x < m 29 5
    · rw [if_pos h2, if_pos ⟨by rw [i_le]; rw [i_lt] at h1; omega, h2⟩]
    · rw [if_neg h2, if_neg (fun h => h2 h.2)]
/-- no such change, program: both say so -/
theorem lt_rng {x : Int32} {c : Nat} (hc : c ≤ 5) (h : 0 ≤ x ∧ x < nI c) : (0 ≤ x ∧ x ≤ nI c - 1) ∧ ∃ a, a < c ∧ x = nI a := by
  refine ⟨⟨h.1, (le_pred hc).mpr h.2⟩, ?_⟩
  obtain ⟨a, a1, rfl⟩ := nI_of (nIlt_not_neg h.1)
  exact ⟨a, (nI_ltI a1 (by omega)).mp h.2, rfl⟩
theorem lt_no {x : Int32} {c : Nat} (hc : c ≤ 5) (h : ¬ (0 ≤ x ∧ x < nI c)) : ¬ (0 ≤ x ∧ x ≤ nI c - 1) := fun z => h ⟨z.1, (le_pred hc).mp z.2⟩
theorem z_tell {n1 a1 k : Nat} {x : Int32} {m : aM} (hk : k < n1) (hn : n1 < 2 ^ 31) (ha : a1 ≠ 29) : f_Pla_tell n1 a1 (nI k) x m = some (m a1 k, a_st (a_st m a1 k x) 29 7 (m 29 7 + 1)) := by
  unfold f_Pla_tell
  simp only [if_neg (nI_pos (show k < 2 ^ 31 by omega)), if_pos (show nI k < Int32.ofNat n1 from nI_lt hk hn), inb_nI hk hn, o_gd_t, o_let_eq, nI_clamp (show k < 2 ^ 31 by omega)]
  rw [a_st_ne (Ne.symm ha)]
theorem z_holdI (x1 x2 x3 : Int32) (m : aM) (h : Iv m) : ZX [NSE, IAE] (f_Led_hold x1 x2 x3) (f_Mod_hold x1 x2 x3) m := by
  obtain ⟨c, p, hp⟩ := h.2.2.2.2.1
  obtain ⟨h1, h2, h3, h4, h5, h6, h7, h8, h9, h10, h11⟩ := hp
  unfold ZX f_Led_hold f_Mod_hold b_Mod_hold_25 b_Mod_hold_52 b_Mod_hold_57
  have e35 : ∀ m' : aM, a_st m' 242 0 0 242 35 = m' 242 35 := fun m' => a_st_no (by decide)
  simp only [z_checkChange, z_range, z_in, o_let_eq, o_b_some, h3, e35]
  by_cases c1 : (0 : Int32) ≤ x1 ∧ x1 < nI c
  case neg =>
    simp only [if_neg c1, o_t_inr]
    refine ⟨_, _, rfl, ?_⟩
    simp only [h4, if_neg (lt_no (by omega) c1), if_true, z_bad1 (show (1 : Int32) ≠ 0 by decide), o_b2_some, show ¬ (1 : Int32) = 0 by decide, if_false]
    exact ⟨_, _, rfl, ⟨0, rfl, a_st_self⟩, (h.f0 th_fr).1, (h.f0 th_fr).2⟩
  obtain ⟨c1', a, ac, rfl⟩ := lt_rng (by omega) c1
  simp only [if_pos c1, o_t_inl]
  by_cases c2 : (0 : Int32) ≤ x2 ∧ x2 ≤ 4
  case neg =>
    simp only [if_neg c2, o_t_inr]
    refine ⟨_, _, rfl, ?_⟩
    simp only [h4, if_pos c1', show ¬ (1 : Int32) = 0 by decide, if_false, z_bad0, o_b2_some, if_true, if_neg c2, z_bad1 (show (2 : Int32) ≠ 0 by decide)]
    exact ⟨_, _, rfl, ⟨1, rfl, a_st_self⟩, (h.f0 th_fr).1, (h.f0 th_fr).2⟩
  obtain ⟨s, s4, rfl⟩ := rng_nat (n := 4) rfl (by decide) c2
  simp only [if_pos c2, o_t_inl]
  by_cases c3 : (0 : Int32) ≤ x3 ∧ x3 ≤ 99
  case neg =>
    simp only [if_neg c3, o_t_inr]
    refine ⟨_, _, rfl, ?_⟩
    simp only [h4, if_pos c1', show ¬ (1 : Int32) = 0 by decide, if_false, z_bad0, o_b2_some, if_true, if_pos c2, if_neg c3, z_bad1 (show (2 : Int32) ≠ 0 by decide)]
    exact ⟨_, _, rfl, ⟨1, rfl, a_st_self⟩, (h.f0 th_fr).1, (h.f0 th_fr).2⟩
  simp only [if_pos c3, o_t_inl]
  unfold f_Pla_tellHold
  rw [show nI a * 5 + nI s = nI (a * 5 + s) by rw [show (5 : Int32) = nI 5 from rfl, pk_mul, nI_add]]
  simp only [z_tell (show a * 5 + s < 15 by omega) (show 15 < 2 ^ 31 by decide) (show 30 ≠ 29 by decide), o_b2_some]
  refine ⟨_, _, rfl, ?_⟩
  have e4 : ∀ x y, a_st (a_st m 30 (a * 5 + s) x) 29 7 y 242 35 = nI c := fun x y => by rw [a_st_ne (by decide), a_st_ne (by decide)]; exact h4
  simp only [e4, if_pos c1', show ¬ (1 : Int32) = 0 by decide, if_false, z_bad0, o_b2_some, if_true, if_pos c2, if_pos c3, inb_nI (show a < 3 by omega) (by decide), inb_nI (show s < 5 by omega) (by decide), o_gd_t, nI_clamp (show a < 2 ^ 31 by omega), nI_clamp (show s < 2 ^ 31 by omega)]
  generalize hm : a_st (a_st (a_st (a_st m 30 (a * 5 + s) x3) 29 7 (m 29 7 + 1)) 242 0 0) (8453 + a) s x3 = m2
  have rd : ∀ b j, m2 b j = if b = 8453 + a ∧ j = s then x3 else if b = 242 ∧ j = 0 then 0 else if b = 29 ∧ j = 7 then m 29 7 + 1 else if b = 30 ∧ j = a * 5 + s then x3 else m b j := fun b j => by rw [← hm]; simp only [a_rd]
  have fr : Fr fP m m2 := fun b j hb => by unfold fP at hb; rw [rd, if_neg (by omega), if_neg (by omega), if_neg (by omega), if_neg (by omega)]
  have o : ∀ b j, ¬ (b = 8453 + a ∧ j = s) → ¬ (b = 242 ∧ j = 0) → ¬ (b = 29 ∧ j = 7) → ¬ (b = 30 ∧ j = a * 5 + s) → m2 b j = m b j := fun b j z1 z2 z3 z4 => by rw [rd, if_neg z1, if_neg z2, if_neg z3, if_neg z4]
  have iv := h.pl fr ⟨c, p, h1, h2, (o _ _ (by omega) (by omega) (by omega) (by omega)).trans h3, (o _ _ (by omega) (by omega) (by omega) (by omega)).trans h4, (o _ _ (by omega) (by omega) (by omega) (by omega)).trans h5, (o _ _ (by omega) (by omega) (by omega) (by omega)).trans h6, fun a' s' ha' hs' => by
      by_cases z : a' = a ∧ s' = s
      · obtain ⟨rfl, rfl⟩ := z
        have q1 : m2 30 (5 * a' + s') = x3 := by rw [rd, if_neg (by omega), if_neg (by omega), if_neg (by omega), if_pos (by omega)]
        have q2 : m2 (8453 + a') s' = x3 := by rw [rd, if_pos (by omega)]
        rw [q1, q2]
        exact ⟨rfl, bd_of c3⟩
      · rw [o 30 _ (by omega) (by omega) (by omega) (by omega), o (8453 + a') s' (by omega) (by omega) (by omega) (by omega)]
        exact h7 a' s' ha' hs',
    fun q a' hq ha' => by rw [o 31 _ (by omega) (by omega) (by omega) (by omega), o (8457 + q) _ (by omega) (by omega) (by omega) (by omega)]; exact h8 q a' hq ha',
    fun q hq => by rw [o 32 _ (by omega) (by omega) (by omega) (by omega), o 8470 _ (by omega) (by omega) (by omega) (by omega)]; exact h9 q hq,
    fun a' b ha hb => by rw [o 33 _ (by omega) (by omega) (by omega) (by omega), o (8463 + a') _ (by omega) (by omega) (by omega) (by omega)]; exact h10 a' b ha hb,
    fun a' b ha hb => by rw [o 34 _ (by omega) (by omega) (by omega) (by omega), o (8467 + a') _ (by omega) (by omega) (by omega) (by omega), o 34 _ (by omega) (by omega) (by omega) (by omega)]; exact h11 a' b ha hb⟩ (Or.inl (by rw [rd, if_neg (by omega), if_neg (by omega), if_pos (by omega)]))
  refine ⟨_, _, rfl, ⟨by rw [rd, if_neg (by omega), if_pos (by omega)], ?_⟩, iv.1, iv.2⟩
  rw [a_st_ne (by omega), a_st_ne (by omega), a_st_ne (by omega), ← (h7 a s (by omega) (by omega)).1, Nat.mul_comm]
