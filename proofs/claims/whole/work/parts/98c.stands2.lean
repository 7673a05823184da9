/-! CALLS: stands -/
abbrev nodP (c p : Nat) (x1 x2 : Int32) : Prop := (0 ≤ x1 ∧ x1 ≤ nI (p6 c) - 1) ∧ (0 ≤ x2 ∧ x2 ≤ ((1 : Int32) <<< (nI p &&& 31)) - 1)
theorem z_checkNode {m : aM} {c p : Nat} (h : iPl m c p) (x1 x2 : Int32) : f_Led_checkNode x1 x2 m = some (if nodP c p x1 x2 then .inl 0 else .inr IAE) := by
  obtain ⟨c3, p5, h5, _, h6, _⟩ := h
  unfold f_Led_checkNode f_Pla_manyNodes f_Pla_manySets f_Pla_power
  rw [h5, h6, if_neg (nI_pos (by omega)), if_neg (show ¬ (4 : Int32) ≤ nI c from nI_ge (b := 4) (by omega) (by decide)), inb_nI (show c < 4 by omega) (by decide), o_gd_t, nI_clamp (by omega), a_pow_n (by omega), o_b_some, o_b_some, z_range]
  by_cases c1 : 0 ≤ x1 ∧ x1 ≤ nI (p6 c) - 1
  · rw [if_pos c1, o_tp_inl, o_let_eq, o_b_some, z_range]
    by_cases c2 : 0 ≤ x2 ∧ x2 ≤ ((1 : Int32) <<< (nI p &&& 31)) - 1
    · rw [if_pos c2, o_tp_inl, if_pos (show nodP c p x1 x2 from ⟨c1, c2⟩)]
    · rw [if_neg c2, o_tp_inr, if_neg (fun z : nodP c p x1 x2 => c2 z.2)]
  · rw [if_neg c1, o_tp_inr, if_neg (fun z : nodP c p x1 x2 => c1 z.1)]
theorem m_isNode {m : aM} {c p : Nat} (h : iPl m c p) (x1 x2 : Int32) : f_Mod_isNode x1 x2 m = some (if nodP c p x1 x2 then 1 else 0) := by
  obtain ⟨c3, p5, _, h5, _, h6, _⟩ := h
  have nd : f_Mod_nodes m = some (nI (p6 c)) := by
    unfold f_Mod_nodes
    rw [h5]
    match c, c3 with
    | 0, _ => rfl
    | 1, _ => rfl
    | 2, _ => rfl
    | 3, _ => rfl
  unfold f_Mod_isNode
  rw [nd, o_b_some, z_in, o_b_some]
  by_cases c1 : 0 ≤ x1 ∧ x1 ≤ nI (p6 c) - 1
  · rw [if_pos c1, if_neg (by decide), o_let_eq, h6, z_in, o_b_some]
    by_cases c2 : 0 ≤ x2 ∧ x2 ≤ ((1 : Int32) <<< (nI p &&& 31)) - 1
    · rw [if_pos c2, if_neg (by decide), if_pos (show nodP c p x1 x2 from ⟨c1, c2⟩)]
    · rw [if_neg c2, if_pos rfl, if_neg (fun z : nodP c p x1 x2 => c2 z.2)]
  · rw [if_neg c1, if_pos rfl, if_neg (fun z : nodP c p x1 x2 => c1 z.1)]
theorem nodP_n {c p : Nat} {x1 x2 : Int32} (h : nodP c p x1 x2) : ∃ n, n < p6 c ∧ x1 = nI n := by
  have pb := p6_b (a := c)
  obtain ⟨l, l1, l2⟩ := rng_nat (n := p6 c - 1) (by have := nI_pred (p6 c - 1); rw [Nat.sub_add_cancel pb.1] at this; exact this) (by omega) h.1
  exact ⟨l, by omega, l2⟩
theorem stdP_fr {m m' : aM} {c p n : Nat} {w : Int32} (f : ∀ b j, b = 31 ∨ b = 33 ∨ b = 34 → m' b j = m b j) : stdP m' c p n w ↔ stdP m c p n w := by
  unfold stdP okP nwP odQ pr33 pr34
  rw [show m' 31 = m 31 from funext fun j => f _ _ (by omega), show m' 33 = m 33 from funext fun j => f _ _ (by omega), show m' 34 = m 34 from funext fun j => f _ _ (by omega)]
theorem z_standsI (x1 x2 : Int32) (F : Nat) (m : aM) (hF : 5000 ≤ F) (h : Iv m) : ZX [IAE] (fun m => (f_Led_stands F x1 x2 m).map (fun r => (r, m))) (f_Mod_stands F x1 x2) m := by
  obtain ⟨c, p, hp⟩ := h.2.2.2.2.1
  have hp0 : ∀ v, iPl (a_st m 242 0 v) c p := fun v => hp.fr (fun b j hb => by rw [a_st_no (by omega)])
  unfold ZX f_Led_stands f_Mod_stands b_Mod_stands_20
  simp only [z_checkNode hp, m_isNode (hp0 0), o_let_eq, o_b_some]
  by_cases k : nodP c p x1 x2
  case neg =>
    simp only [if_neg k, o_tp_inr, Option.map_some]
    refine ⟨_, _, rfl, ?_⟩
    simp only [m_isNode (hp0 0), o_b_some, if_neg k, if_true, z_bad1 (show (1 : Int32) ≠ 0 by decide), o_b2_some, show ¬ (1 : Int32) = 0 by decide, if_false]
    exact ⟨_, _, rfl, ⟨0, rfl, a_st_self⟩, (h.f0 th_fr).1, (h.f0 th_fr).2⟩
  obtain ⟨n, n1, rfl⟩ := nodP_n k
  have pb := p6_b (a := c)
  obtain ⟨y, e, y1, y2⟩ := c_stand (F := F) (n := n) (w := x2) hp (by omega) hF
  obtain ⟨z, e', z1, z2⟩ := m_stand (F := F) (n := n) (w := x2) (hp0 0) (by omega) hF
  have yz : y = z := by
    have : y = 1 ↔ z = 1 := y2.trans ((stdP_fr (fun b j hb => by rw [a_st_ne (by omega)])).symm.trans z2.symm)
    rcases y1 with rfl | rfl
    · rcases z1 with rfl | rfl
      · rfl
      · exact absurd (this.mpr rfl) (by decide)
    · exact (this.mp rfl).symm
  subst yz
  have ib : isb y = true := decide_eq_true y1
  simp only [if_pos k, o_tp_inl, e, o_b_some, ib, o_gd_t, Option.map_some]
  refine ⟨_, _, rfl, ?_⟩
  simp only [m_isNode (hp0 0), o_b_some, if_pos k, show ¬ (1 : Int32) = 0 by decide, if_false, z_bad0, o_b2_some, if_true, e', ib, o_gd_t]
  exact ⟨_, _, rfl, ⟨a_st_self, rfl⟩, (h.f0 th_fr).1, (h.f0 th_fr).2⟩
