/-! CALLS: need, price, order, box -/
theorem z_needI (x1 x2 x3 : Int32) (m : aM) (h : Iv m) : ZX [IOB, NSE, IAE] (f_Led_need x1 x2 x3) (f_Mod_need x1 x2 x3) m := by
  obtain ⟨c, p, hp⟩ := h.2.2.2.2.1
  obtain ⟨h1, h2, h3, h4, h5, h6, h7, h8, h9, h10, h11⟩ := hp
  unfold ZX f_Led_need f_Mod_need b_Mod_need_25 b_Mod_need_52 b_Mod_need_74
  have e36 : ∀ m' : aM, a_st m' 242 0 0 242 36 = m' 242 36 := fun m' => a_st_no (by decide)
  have e35 : ∀ m' : aM, a_st m' 242 0 0 242 35 = m' 242 35 := fun m' => a_st_no (by decide)
  simp only [z_checkChange, z_checkProgram, z_range, z_in, o_let_eq, o_b_some, h3, h5, e36]
  by_cases c1 : (0 : Int32) ≤ x1 ∧ x1 < nI p
  case neg =>
    simp only [if_neg c1, o_t_inr]
    refine ⟨_, _, rfl, ?_⟩
    simp only [h6, if_neg (lt_no (by omega) c1), if_true, z_bad1 (show (1 : Int32) ≠ 0 by decide), o_b2_some, show ¬ (1 : Int32) = 0 by decide, if_false]
    exact ⟨_, _, rfl, ⟨0, rfl, a_st_self⟩, (h.f0 th_fr).1, (h.f0 th_fr).2⟩
  obtain ⟨c1', q, qp, rfl⟩ := lt_rng (by omega) c1
  simp only [if_pos c1, o_t_inl]
  by_cases c2 : (0 : Int32) ≤ x2 ∧ x2 < nI c
  case neg =>
    simp only [if_neg c2, o_t_inr]
    refine ⟨_, _, rfl, ?_⟩
    simp only [h6, if_pos c1', show ¬ (1 : Int32) = 0 by decide, if_false, z_bad0, o_b2_some, if_true, e35, h4, if_neg (lt_no (by omega) c2), z_bad1 (show (2 : Int32) ≠ 0 by decide)]
    exact ⟨_, _, rfl, ⟨1, rfl, a_st_self⟩, (h.f0 th_fr).1, (h.f0 th_fr).2⟩
  obtain ⟨c2', a, ac, rfl⟩ := lt_rng (by omega) c2
  simp only [if_pos c2, o_t_inl]
  by_cases c3 : (0 : Int32) ≤ x3 ∧ x3 ≤ 2
  case neg =>
    simp only [if_neg c3, o_t_inr]
    refine ⟨_, _, rfl, ?_⟩
    simp only [h6, if_pos c1', show ¬ (1 : Int32) = 0 by decide, if_false, z_bad0, o_b2_some, if_true, e35, h4, if_pos c2', if_neg c3, z_bad1 (show (3 : Int32) ≠ 0 by decide)]
    exact ⟨_, _, rfl, ⟨2, rfl, a_st_self⟩, (h.f0 th_fr).1, (h.f0 th_fr).2⟩
  simp only [if_pos c3, o_t_inl]
  unfold f_Pla_tellNeed
  rw [show nI q * 3 + nI a = nI (q * 3 + a) by rw [show (3 : Int32) = nI 3 from rfl, pk_mul, nI_add]]
  simp only [z_tell (show q * 3 + a < 15 by omega) (show 15 < 2 ^ 31 by decide) (show 31 ≠ 29 by decide), o_b2_some]
  refine ⟨_, _, rfl, ?_⟩
  have e6 : ∀ x y, a_st (a_st m 31 (q * 3 + a) x) 29 7 y 242 36 = nI p := fun x y => by rw [a_st_ne (by decide), a_st_ne (by decide)]; exact h6
  have e4 : ∀ x y, a_st (a_st m 31 (q * 3 + a) x) 29 7 y 242 35 = nI c := fun x y => by rw [a_st_ne (by decide), a_st_ne (by decide)]; exact h4
  simp only [e6, if_pos c1', show ¬ (1 : Int32) = 0 by decide, if_false, z_bad0, o_b2_some, if_true, e35, e4, if_pos c2', if_pos c3, inb_nI (show q < 5 by omega) (by decide), inb_nI (show a < 3 by omega) (by decide), o_gd_t, nI_clamp (show a < 2 ^ 31 by omega), nI_clamp (show q < 2 ^ 31 by omega)]
  generalize hm : a_st (a_st (a_st (a_st m 31 (q * 3 + a) x3) 29 7 (m 29 7 + 1)) 242 0 0) (8457 + q) a x3 = m2
  have rd : ∀ b j, m2 b j = if b = 8457 + q ∧ j = a then x3 else if b = 242 ∧ j = 0 then 0 else if b = 29 ∧ j = 7 then m 29 7 + 1 else if b = 31 ∧ j = q * 3 + a then x3 else m b j := fun b j => by rw [← hm]; simp only [a_rd]
  have o : ∀ b j, ¬ (b = 8457 + q ∧ j = a) → ¬ (b = 242 ∧ j = 0) → ¬ (b = 29 ∧ j = 7) → ¬ (b = 31 ∧ j = q * 3 + a) → m2 b j = m b j := fun b j z1 z2 z3 z4 => by rw [rd, if_neg z1, if_neg z2, if_neg z3, if_neg z4]
  have fr : Fr fP m m2 := fun b j hb => by unfold fP at hb; exact o b j (by omega) (by omega) (by omega) (by omega)
  have iv := h.pl fr ⟨c, p, h1, h2, (o _ _ (by omega) (by omega) (by omega) (by omega)).trans h3, (o _ _ (by omega) (by omega) (by omega) (by omega)).trans h4, (o _ _ (by omega) (by omega) (by omega) (by omega)).trans h5, (o _ _ (by omega) (by omega) (by omega) (by omega)).trans h6,
    fun a' s ha' hs => by rw [o 30 _ (by omega) (by omega) (by omega) (by omega), o (8453 + a') _ (by omega) (by omega) (by omega) (by omega)]; exact h7 a' s ha' hs,
    fun q' a' hq' ha' => by
      by_cases z : q' = q ∧ a' = a
      · obtain ⟨rfl, rfl⟩ := z
        have q1 : m2 31 (3 * q' + a') = x3 := by rw [rd, if_neg (by omega), if_neg (by omega), if_neg (by omega), if_pos (by omega)]
        have q2 : m2 (8457 + q') a' = x3 := by rw [rd, if_pos (by omega)]
        rw [q1, q2]
        exact ⟨rfl, bd_of c3⟩
      · rw [o 31 _ (by omega) (by omega) (by omega) (by omega), o (8457 + q') a' (by omega) (by omega) (by omega) (by omega)]
        exact h8 q' a' hq' ha',
    fun q' hq => by rw [o 32 _ (by omega) (by omega) (by omega) (by omega), o 8470 _ (by omega) (by omega) (by omega) (by omega)]; exact h9 q' hq,
    fun a' b ha hb => by rw [o 33 _ (by omega) (by omega) (by omega) (by omega), o (8463 + a') _ (by omega) (by omega) (by omega) (by omega)]; exact h10 a' b ha hb,
    fun a' b ha hb => by rw [o 34 _ (by omega) (by omega) (by omega) (by omega), o (8467 + a') _ (by omega) (by omega) (by omega) (by omega), o 34 _ (by omega) (by omega) (by omega) (by omega)]; exact h11 a' b ha hb⟩ (Or.inl (by rw [rd, if_neg (by omega), if_neg (by omega), if_pos (by omega)]))
  refine ⟨_, _, rfl, ⟨by rw [rd, if_neg (by omega), if_pos (by omega)], ?_⟩, iv.1, iv.2⟩
  rw [a_st_ne (by omega), a_st_ne (by omega), a_st_ne (by omega), ← (h8 q a (by omega) (by omega)).1, Nat.mul_comm]
theorem z_priceI (x1 x2 : Int32) (m : aM) (h : Iv m) : ZX [IOB, IAE] (f_Led_price x1 x2) (f_Mod_price x1 x2) m := by
  obtain ⟨c, p, hp⟩ := h.2.2.2.2.1
  obtain ⟨h1, h2, h3, h4, h5, h6, h7, h8, h9, h10, h11⟩ := hp
  unfold ZX f_Led_price f_Mod_price b_Mod_price_25 b_Mod_price_48
  have e36 : ∀ m' : aM, a_st m' 242 0 0 242 36 = m' 242 36 := fun m' => a_st_no (by decide)
  simp only [z_checkProgram, z_range, z_in, o_let_eq, o_b_some, h5, e36]
  by_cases c1 : (0 : Int32) ≤ x1 ∧ x1 < nI p
  case neg =>
    simp only [if_neg c1, o_t_inr]
    refine ⟨_, _, rfl, ?_⟩
    simp only [h6, if_neg (lt_no (by omega) c1), if_true, z_bad1 (show (1 : Int32) ≠ 0 by decide), o_b2_some, show ¬ (1 : Int32) = 0 by decide, if_false]
    exact ⟨_, _, rfl, ⟨0, rfl, a_st_self⟩, (h.f0 th_fr).1, (h.f0 th_fr).2⟩
  obtain ⟨c1', q, qp, rfl⟩ := lt_rng (by omega) c1
  simp only [if_pos c1, o_t_inl]
  by_cases c3 : (0 : Int32) ≤ x2 ∧ x2 ≤ 99
  case neg =>
    simp only [if_neg c3, o_t_inr]
    refine ⟨_, _, rfl, ?_⟩
    simp only [h6, if_pos c1', show ¬ (1 : Int32) = 0 by decide, if_false, z_bad0, o_b2_some, if_true, if_neg c3, z_bad1 (show (2 : Int32) ≠ 0 by decide)]
    exact ⟨_, _, rfl, ⟨1, rfl, a_st_self⟩, (h.f0 th_fr).1, (h.f0 th_fr).2⟩
  simp only [if_pos c3, o_t_inl]
  unfold f_Pla_tellPrice
  simp only [z_tell (show q < 5 by omega) (show 5 < 2 ^ 31 by decide) (show 32 ≠ 29 by decide), o_b2_some]
  refine ⟨_, _, rfl, ?_⟩
  have e6 : ∀ x y, a_st (a_st m 32 q x) 29 7 y 242 36 = nI p := fun x y => by rw [a_st_ne (by decide), a_st_ne (by decide)]; exact h6
  simp only [e6, if_pos c1', show ¬ (1 : Int32) = 0 by decide, if_false, z_bad0, o_b2_some, if_true, if_pos c3, inb_nI (show q < 5 by omega) (by decide), o_gd_t, nI_clamp (show q < 2 ^ 31 by omega)]
  generalize hm : a_st (a_st (a_st (a_st m 32 q x2) 29 7 (m 29 7 + 1)) 242 0 0) 8470 q x2 = m2
  have rd : ∀ b j, m2 b j = if b = 8470 ∧ j = q then x2 else if b = 242 ∧ j = 0 then 0 else if b = 29 ∧ j = 7 then m 29 7 + 1 else if b = 32 ∧ j = q then x2 else m b j := fun b j => by rw [← hm]; simp only [a_rd]
  have o : ∀ b j, ¬ (b = 8470 ∧ j = q) → ¬ (b = 242 ∧ j = 0) → ¬ (b = 29 ∧ j = 7) → ¬ (b = 32 ∧ j = q) → m2 b j = m b j := fun b j z1 z2 z3 z4 => by rw [rd, if_neg z1, if_neg z2, if_neg z3, if_neg z4]
  have fr : Fr fP m m2 := fun b j hb => by unfold fP at hb; exact o b j (by omega) (by omega) (by omega) (by omega)
  have iv := h.pl fr ⟨c, p, h1, h2, (o _ _ (by omega) (by omega) (by omega) (by omega)).trans h3, (o _ _ (by omega) (by omega) (by omega) (by omega)).trans h4, (o _ _ (by omega) (by omega) (by omega) (by omega)).trans h5, (o _ _ (by omega) (by omega) (by omega) (by omega)).trans h6,
    fun a' s ha' hs => by rw [o 30 _ (by omega) (by omega) (by omega) (by omega), o (8453 + a') _ (by omega) (by omega) (by omega) (by omega)]; exact h7 a' s ha' hs,
    fun q' a' hq ha' => by rw [o 31 _ (by omega) (by omega) (by omega) (by omega), o (8457 + q') _ (by omega) (by omega) (by omega) (by omega)]; exact h8 q' a' hq ha',
    fun q' hq' => by
      by_cases z : q' = q
      · subst z
        have q1 : m2 32 q' = x2 := by rw [rd, if_neg (by omega), if_neg (by omega), if_neg (by omega), if_pos (by omega)]
        have q2 : m2 8470 q' = x2 := by rw [rd, if_pos (by omega)]
        rw [q1, q2]
        exact ⟨rfl, bd_of c3⟩
      · rw [o 32 _ (by omega) (by omega) (by omega) (by omega), o 8470 q' (by omega) (by omega) (by omega) (by omega)]
        exact h9 q' hq',
    fun a' b ha hb => by rw [o 33 _ (by omega) (by omega) (by omega) (by omega), o (8463 + a') _ (by omega) (by omega) (by omega) (by omega)]; exact h10 a' b ha hb,
    fun a' b ha hb => by rw [o 34 _ (by omega) (by omega) (by omega) (by omega), o (8467 + a') _ (by omega) (by omega) (by omega) (by omega), o 34 _ (by omega) (by omega) (by omega) (by omega)]; exact h11 a' b ha hb⟩ (Or.inl (by rw [rd, if_neg (by omega), if_neg (by omega), if_pos (by omega)]))
  refine ⟨_, _, rfl, ⟨by rw [rd, if_neg (by omega), if_pos (by omega)], ?_⟩, iv.1, iv.2⟩
  rw [a_st_ne (by omega), a_st_ne (by omega), a_st_ne (by omega), ← (h9 q (by omega)).1]
theorem z_pair {a1 a b : Nat} {m : aM} (ha : a < 3) (hb : b < 3) (h29 : a1 ≠ 29) : f_Pla_tellPair a1 (nI a) (nI b) m = some (if m a1 (3 * a + b) = 0 then 1 else 0, if m a1 (3 * a + b) = 0 then a_st (a_st m a1 (3 * a + b) 1) 29 7 (m 29 7 + 1) else m) := by
  unfold f_Pla_tellPair
  rw [show nI a * 3 + nI b = nI (3 * a + b) by rw [show (3 : Int32) = nI 3 from rfl, pk_mul, nI_add, Nat.mul_comm]]
  simp only [if_neg (nI_pos (show 3 * a + b < 2 ^ 31 by omega)), if_neg (show ¬ (9 : Int32) ≤ nI (3 * a + b) from nI_ge (b := 9) (by omega) (by decide)), inb_nI (show 3 * a + b < 9 by omega) (by decide), o_gd_t, o_let_eq, nI_clamp (show 3 * a + b < 2 ^ 31 by omega)]
  by_cases c : m a1 (3 * a + b) = 0
  · simp only [if_pos c]
    rw [a_st_ne (Ne.symm h29)]
  · simp only [if_neg c]
theorem z_orderI (x1 x2 x3 : Int32) (m : aM) (h : Iv m) : ZX [NSE, IAE] (f_Led_order x1 x2 x3) (f_Mod_order x1 x2 x3) m := by
  obtain ⟨c, p, hp⟩ := h.2.2.2.2.1
  obtain ⟨h1, h2, h3, h4, h5, h6, h7, h8, h9, h10, h11⟩ := hp
  unfold ZX f_Led_order f_Mod_order b_Mod_order_34 b_Mod_order_39 b_Mod_order_57 b_Mod_order_97 b_Led_order_50
  have e35 : ∀ m' : aM, a_st m' 242 0 0 242 35 = m' 242 35 := fun m' => a_st_no (by decide)
  simp only [z_checkChange, z_in, o_let_eq, o_b_some, h3, e35]
  by_cases c1 : (0 : Int32) ≤ x1 ∧ x1 < nI c
  case neg =>
    simp only [if_neg c1, o_t_inr]
    refine ⟨_, _, rfl, ?_⟩
    simp only [h4, if_neg (lt_no (by omega) c1), if_true, z_bad1 (show (1 : Int32) ≠ 0 by decide), o_b2_some, show ¬ (1 : Int32) = 0 by decide, if_false]
    exact ⟨_, _, rfl, ⟨0, rfl, a_st_self⟩, (h.f0 th_fr).1, (h.f0 th_fr).2⟩
  obtain ⟨c1', a, ac, rfl⟩ := lt_rng (by omega) c1
  simp only [if_pos c1, o_t_inl]
  by_cases c2 : (0 : Int32) ≤ x2 ∧ x2 < nI c
  case neg =>
    simp only [if_neg c2, o_t_inr]
    refine ⟨_, _, rfl, ?_⟩
    simp only [h4, if_pos c1', if_neg (lt_no (by omega) c2), if_true, z_bad1 (show (1 : Int32) ≠ 0 by decide), o_b2_some, show ¬ (1 : Int32) = 0 by decide, if_false]
    exact ⟨_, _, rfl, ⟨0, rfl, a_st_self⟩, (h.f0 th_fr).1, (h.f0 th_fr).2⟩
  obtain ⟨c2', b, bc, rfl⟩ := lt_rng (by omega) c2
  simp only [if_pos c2, o_t_inl]
  by_cases ne : nI a = nI b
  · simp only [if_pos ne]
    refine ⟨_, _, rfl, ?_⟩
    simp only [h4, if_pos c1', if_pos c2', z_bad0, if_true, z_bad1 (show (2 : Int32) ≠ 0 by decide), o_b2_some, show ¬ (1 : Int32) = 0 by decide, if_false, if_pos ne]
    exact ⟨_, _, rfl, ⟨1, rfl, a_st_self⟩, (h.f0 th_fr).1, (h.f0 th_fr).2⟩
  have nab : a ≠ b := fun z => ne (by rw [z])
  simp only [if_neg ne]
  by_cases c3 : x3 = 0
  · simp only [if_pos c3]
    unfold f_Pla_tellOrder
    simp only [z_pair (a1 := 33) (show a < 3 by omega) (show b < 3 by omega) (by decide), o_b2_some]
    obtain ⟨k1, k2, k3⟩ := h10 a b (by omega) (by omega)
    rcases isb_or k2 with z | z
    · simp only [if_pos z, show isb 1 = true from rfl, o_gd_t, o_b2_some, show ¬ (1 : Int32) = 0 by decide, if_false]
      refine ⟨_, _, rfl, ?_⟩
      have e4 : ∀ y, a_st (a_st m 33 (3 * a + b) 1) 29 7 y 242 35 = nI c := fun y => by rw [a_st_ne (by decide), a_st_ne (by decide)]; exact h4
      have e8 : ∀ y, a_st (a_st (a_st m 33 (3 * a + b) 1) 29 7 y) 242 0 0 (8463 + a) b = 0 := fun y => by rw [a_st_ne (by omega), a_st_ne (by omega), a_st_ne (by omega), ← k1]; exact z
      simp only [e4, if_pos c1', if_pos c2', show ¬ (1 : Int32) = 0 by decide, if_false, z_bad0, o_b2_some, if_true, if_neg ne, inb_nI (show a < 3 by omega) (by decide), inb_nI (show b < 3 by omega) (by decide), o_gd_t, nI_clamp (show a < 2 ^ 31 by omega), nI_clamp (show b < 2 ^ 31 by omega), e8]
      generalize hm : a_st (a_st (a_st (a_st m 33 (3 * a + b) 1) 29 7 (m 29 7 + 1)) 242 0 0) (8463 + a) b 1 = m2
      have rd : ∀ b' j, m2 b' j = if b' = 8463 + a ∧ j = b then 1 else if b' = 242 ∧ j = 0 then 0 else if b' = 29 ∧ j = 7 then m 29 7 + 1 else if b' = 33 ∧ j = 3 * a + b then 1 else m b' j := fun b' j => by rw [← hm]; simp only [a_rd]
      have o : ∀ b' j, ¬ (b' = 8463 + a ∧ j = b) → ¬ (b' = 242 ∧ j = 0) → ¬ (b' = 29 ∧ j = 7) → ¬ (b' = 33 ∧ j = 3 * a + b) → m2 b' j = m b' j := fun b j z1 z2 z3 z4 => by rw [rd, if_neg z1, if_neg z2, if_neg z3, if_neg z4]
      have fr : Fr fP m m2 := fun b j hb => by unfold fP at hb; exact o b j (by omega) (by omega) (by omega) (by omega)
      have iv := h.pl fr ⟨c, p, h1, h2, (o _ _ (by omega) (by omega) (by omega) (by omega)).trans h3, (o _ _ (by omega) (by omega) (by omega) (by omega)).trans h4, (o _ _ (by omega) (by omega) (by omega) (by omega)).trans h5, (o _ _ (by omega) (by omega) (by omega) (by omega)).trans h6,
        fun a' s ha' hs => by rw [o 30 _ (by omega) (by omega) (by omega) (by omega), o (8453 + a') _ (by omega) (by omega) (by omega) (by omega)]; exact h7 a' s ha' hs,
        fun q' a' hq ha' => by rw [o 31 _ (by omega) (by omega) (by omega) (by omega), o (8457 + q') _ (by omega) (by omega) (by omega) (by omega)]; exact h8 q' a' hq ha',
        fun q' hq => by rw [o 32 _ (by omega) (by omega) (by omega) (by omega), o 8470 _ (by omega) (by omega) (by omega) (by omega)]; exact h9 q' hq,
        fun a' b' ha hb => by
          by_cases z : a' = a ∧ b' = b
          · obtain ⟨rfl, rfl⟩ := z
            have q1 : m2 33 (3 * a' + b') = 1 := by rw [rd, if_neg (by omega), if_neg (by omega), if_neg (by omega), if_pos (by omega)]
            have q2 : m2 (8463 + a') b' = 1 := by rw [rd, if_pos (by omega)]
            rw [q1, q2]
            exact ⟨rfl, rfl, fun _ => ⟨ac, bc⟩⟩
          · rw [o 33 _ (by omega) (by omega) (by omega) (by omega), o (8463 + a') b' (by omega) (by omega) (by omega) (by omega)]
            exact h10 a' b' ha hb,
        fun a' b' ha hb => by rw [o 34 _ (by omega) (by omega) (by omega) (by omega), o (8467 + a') _ (by omega) (by omega) (by omega) (by omega), o 34 _ (by omega) (by omega) (by omega) (by omega)]; exact h11 a' b' ha hb⟩ (Or.inl (by rw [rd, if_neg (by omega), if_neg (by omega), if_pos (by omega)]))
      exact ⟨_, _, rfl, ⟨by rw [rd, if_neg (by omega), if_pos (by omega)], rfl⟩, iv.1, iv.2⟩
    · have z0 : ¬ m 33 (3 * a + b) = 0 := by rw [z]; decide
      simp only [if_neg z0, show isb 0 = true from rfl, o_gd_t, o_b2_some, if_true]
      refine ⟨_, _, rfl, ?_⟩
      have e8 : ¬ a_st m 242 0 0 (8463 + a) b = 0 := by rw [a_st_ne (by omega), ← k1]; exact z0
      simp only [h4, if_pos c1', if_pos c2', show ¬ (1 : Int32) = 0 by decide, if_false, z_bad0, o_b2_some, if_true, if_neg ne, inb_nI (show a < 3 by omega) (by decide), inb_nI (show b < 3 by omega) (by decide), o_gd_t, nI_clamp (show a < 2 ^ 31 by omega), nI_clamp (show b < 2 ^ 31 by omega), if_neg e8]
      exact ⟨_, _, rfl, ⟨a_st_self, rfl⟩, (h.f0 th_fr).1, (h.f0 th_fr).2⟩
  · simp only [if_neg c3]
    unfold f_Pla_tellBar
    obtain ⟨lo, hi, lh, hl, elo, ehi, ba⟩ : ∃ lo hi, lo < hi ∧ hi < c ∧ (if nI b < nI a then nI b else nI a) = nI lo ∧ (if nI a < nI b then nI b else nI a) = nI hi ∧ (a = lo ∧ b = hi ∨ a = hi ∧ b = lo) := by
      rcases Nat.lt_or_ge a b with z | z
      · exact ⟨a, b, z, bc, by rw [if_neg (nI_nlt (by omega) (by omega))], by rw [if_pos (nI_lt z (by omega))], Or.inl ⟨rfl, rfl⟩⟩
      · exact ⟨b, a, by omega, ac, by rw [if_pos (nI_lt (by omega) (by omega))], by rw [if_neg (nI_nlt z (by omega))], Or.inr ⟨rfl, rfl⟩⟩
    rw [elo, ehi]
    simp only [z_pair (a1 := 34) (show lo < 3 by omega) (show hi < 3 by omega) (by decide), o_b2_some]
    obtain ⟨k1, k2, k3⟩ := h11 lo hi (by omega) (by omega)
    have kab : m (8467 + a) b = m 34 (3 * lo + hi) := by
      rcases ba with ⟨rfl, rfl⟩ | ⟨rfl, rfl⟩
      · rw [k3, if_pos lh]
      · rw [(h11 a b (by omega) (by omega)).2.2, if_neg (by omega), if_pos lh]
    rcases isb_or k1 with z | z
    · simp only [if_pos z, show isb 1 = true from rfl, o_gd_t, o_b2_some, show ¬ (1 : Int32) = 0 by decide, if_false]
      refine ⟨_, _, rfl, ?_⟩
      have e4 : ∀ y, a_st (a_st m 34 (3 * lo + hi) 1) 29 7 y 242 35 = nI c := fun y => by rw [a_st_ne (by decide), a_st_ne (by decide)]; exact h4
      have e8 : ∀ y, a_st (a_st (a_st m 34 (3 * lo + hi) 1) 29 7 y) 242 0 0 (8467 + a) b = 0 := fun y => by rw [a_st_ne (by omega), a_st_ne (by omega), a_st_ne (by omega), kab]; exact z
      simp only [e4, if_pos c1', if_pos c2', show ¬ (1 : Int32) = 0 by decide, if_false, z_bad0, o_b2_some, if_true, if_neg ne, inb_nI (show a < 3 by omega) (by decide), inb_nI (show b < 3 by omega) (by decide), o_gd_t, nI_clamp (show a < 2 ^ 31 by omega), nI_clamp (show b < 2 ^ 31 by omega), e8]
      generalize hm : a_st (a_st (a_st (a_st (a_st m 34 (3 * lo + hi) 1) 29 7 (m 29 7 + 1)) 242 0 0) (8467 + a) b 1) (8467 + b) a 1 = m2
      have rd : ∀ b' j, m2 b' j = if b' = 8467 + b ∧ j = a then 1 else if b' = 8467 + a ∧ j = b then 1 else if b' = 242 ∧ j = 0 then 0 else if b' = 29 ∧ j = 7 then m 29 7 + 1 else if b' = 34 ∧ j = 3 * lo + hi then 1 else m b' j := fun b' j => by rw [← hm]; simp only [a_rd]
      have o : ∀ b' j, ¬ (b' = 8467 + b ∧ j = a) → ¬ (b' = 8467 + a ∧ j = b) → ¬ (b' = 242 ∧ j = 0) → ¬ (b' = 29 ∧ j = 7) → ¬ (b' = 34 ∧ j = 3 * lo + hi) → m2 b' j = m b' j := fun b j z0 z1 z2 z3 z4 => by rw [rd, if_neg z0, if_neg z1, if_neg z2, if_neg z3, if_neg z4]
      have fr : Fr fP m m2 := fun b j hb => by unfold fP at hb; exact o b j (by omega) (by omega) (by omega) (by omega) (by omega)
      have v34 : ∀ a' b', a' < 3 → b' < 3 → m2 34 (3 * a' + b') = if a' = lo ∧ b' = hi then 1 else m 34 (3 * a' + b') := fun a' b' ha hb => by
        by_cases z : a' = lo ∧ b' = hi
        · rw [if_pos z, rd, if_neg (by omega), if_neg (by omega), if_neg (by omega), if_neg (by omega), if_pos (by omega)]
        · rw [if_neg z, o 34 _ (by omega) (by omega) (by omega) (by omega) (by omega)]
      have iv := h.pl fr ⟨c, p, h1, h2, (o _ _ (by omega) (by omega) (by omega) (by omega) (by omega)).trans h3, (o _ _ (by omega) (by omega) (by omega) (by omega) (by omega)).trans h4, (o _ _ (by omega) (by omega) (by omega) (by omega) (by omega)).trans h5, (o _ _ (by omega) (by omega) (by omega) (by omega) (by omega)).trans h6,
        fun a' s ha' hs => by rw [o 30 _ (by omega) (by omega) (by omega) (by omega) (by omega), o (8453 + a') _ (by omega) (by omega) (by omega) (by omega) (by omega)]; exact h7 a' s ha' hs,
        fun q' a' hq ha' => by rw [o 31 _ (by omega) (by omega) (by omega) (by omega) (by omega), o (8457 + q') _ (by omega) (by omega) (by omega) (by omega) (by omega)]; exact h8 q' a' hq ha',
        fun q' hq => by rw [o 32 _ (by omega) (by omega) (by omega) (by omega) (by omega), o 8470 _ (by omega) (by omega) (by omega) (by omega) (by omega)]; exact h9 q' hq,
        fun a' b' ha hb => by rw [o 33 _ (by omega) (by omega) (by omega) (by omega) (by omega), o (8463 + a') _ (by omega) (by omega) (by omega) (by omega) (by omega)]; exact h10 a' b' ha hb,
        fun a' b' ha hb => by
          obtain ⟨j1, j2, j3⟩ := h11 a' b' ha hb
          rw [v34 a' b' ha hb, v34 b' a' hb ha]
          refine ⟨by split <;> first | rfl | exact j1, fun q => ?_, ?_⟩
          · by_cases z : a' = lo ∧ b' = hi
            · omega
            · rw [if_neg z] at q; exact j2 q
          · rw [rd]
            by_cases z1 : 8467 + a' = 8467 + b ∧ b' = a
            · rw [if_pos z1]
              rcases ba with ⟨rfl, rfl⟩ | ⟨rfl, rfl⟩
              · rw [if_neg (by omega), if_pos (by omega), if_pos (by omega)]
              · rw [if_pos (by omega), if_pos (by omega)]
            · rw [if_neg z1]
              by_cases z2 : 8467 + a' = 8467 + a ∧ b' = b
              · rw [if_pos z2]
                rcases ba with ⟨rfl, rfl⟩ | ⟨rfl, rfl⟩
                · rw [if_pos (by omega), if_pos (by omega)]
                · rw [if_neg (by omega), if_pos (by omega), if_pos (by omega)]
              · rw [if_neg z2, if_neg (by omega), if_neg (by omega), if_neg (by omega), j3, if_neg (show ¬ (a' = lo ∧ b' = hi) by omega), if_neg (show ¬ (b' = lo ∧ a' = hi) by omega)]⟩ (Or.inl (by rw [rd, if_neg (by omega), if_neg (by omega), if_neg (by omega), if_pos (by omega)]))
      exact ⟨_, _, rfl, ⟨by rw [rd, if_neg (by omega), if_neg (by omega), if_pos (by omega)], rfl⟩, iv.1, iv.2⟩
    · have z0 : ¬ m 34 (3 * lo + hi) = 0 := by rw [z]; decide
      simp only [if_neg z0, show isb 0 = true from rfl, o_gd_t, o_b2_some, if_true]
      refine ⟨_, _, rfl, ?_⟩
      have e8 : ¬ a_st m 242 0 0 (8467 + a) b = 0 := by rw [a_st_ne (by omega), kab]; exact z0
      simp only [h4, if_pos c1', if_pos c2', show ¬ (1 : Int32) = 0 by decide, if_false, z_bad0, o_b2_some, if_true, if_neg ne, inb_nI (show a < 3 by omega) (by decide), inb_nI (show b < 3 by omega) (by decide), o_gd_t, nI_clamp (show a < 2 ^ 31 by omega), nI_clamp (show b < 2 ^ 31 by omega), if_neg e8, if_neg c3]
      exact ⟨_, _, rfl, ⟨a_st_self, rfl⟩, (h.f0 th_fr).1, (h.f0 th_fr).2⟩
