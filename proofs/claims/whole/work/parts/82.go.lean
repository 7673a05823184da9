/-! CALLS: count, go, back, delete -/
theorem cb_n {P : Nat → Bool} : ∀ d k x, ∃ c, c ≤ d ∧ cb P d k (nI x) = nI (x + c) ∧ (c = 0 → ∀ j, k ≤ j → j < k + d → ¬ P j = true)
  | 0, k, x => ⟨0, Nat.le_refl _, rfl, fun _ j h1 h2 => by omega⟩
  | d + 1, k, x => by
    unfold cb
    by_cases h : P k = true
    · rw [if_pos h, nI_1]
      obtain ⟨c, c1, c2, c3⟩ := cb_n (P := P) d (k + 1) (x + 1)
      exact ⟨c + 1, by omega, by rw [c2, show x + 1 + c = x + (c + 1) by omega], fun z => by omega⟩
    · rw [if_neg h]
      obtain ⟨c, c1, c2, c3⟩ := cb_n (P := P) d (k + 1) x
      rw [show nI x + 0 = nI x from nI_add x 0]
      refine ⟨c, by omega, c2, fun z j j1 j2 => ?_⟩
      by_cases e : j = k
      · rw [e]; exact h
      · exact c3 z j (by omega) (by omega)
theorem cb_40 (P : Nat → Bool) : ∃ c, c ≤ 40 ∧ cb P 40 0 0 = nI c ∧ (c = 0 → ∀ j, j < 40 → ¬ P j = true) := by
  obtain ⟨c, c1, c2, c3⟩ := cb_n (P := P) 40 0 0
  exact ⟨c, c1, by rw [show (0 : Int32) = nI 0 from rfl, c2, Nat.zero_add], fun z j hj => c3 z j (by omega) (by omega)⟩
theorem nI_z {c : Nat} (h : c ≤ 40) : (nI c ≤ 0 ↔ c = 0) ∧ (0 < nI c ↔ ¬ c = 0) ∧ (nI c = 0 ↔ c = 0) := by
  refine ⟨⟨fun z => ?_, fun z => by rw [z]; decide⟩, ⟨fun z q => by rw [q] at z; exact absurd z (by decide), fun z => nI_lt (a := 0) (by omega) (by omega)⟩, ⟨fun z => nI_inj (b := 0) (by omega) (by decide) z, fun z => by rw [z]; rfl⟩⟩
  rcases Nat.eq_zero_or_pos c with h0 | h0
  · exact h0
  · exact absurd z (nI_nle h0 (by omega))
theorem kdB_rS {m m' : aM} {κ : Nat} (h : rS m m') : cb (kdB m' κ) 40 0 0 = cb (kdB m κ) 40 0 0 := cb_cg 40 0 0 rfl (fun j hj => by unfold kdB; rw [h _ _ (by omega)])
theorem brB_rS {m m' : aM} (h : rS m m') : cb (brB m') 40 0 0 = cb (brB m) 40 0 0 := cb_cg 40 0 0 rfl (fun j hj => by unfold brB; rw [h _ _ (by omega), h _ _ (by omega)])
theorem thB_rS {m m' : aM} (h : rS m m') : cb (thB m') 40 0 0 = cb (thB m) 40 0 0 := cb_cg 40 0 0 rfl (fun j hj => by unfold thB; rw [h _ _ (by omega)])
theorem odB_rS40 {m m' : aM} {st : lS} (h : rS m m') : cb (odB m' st) 40 0 0 = cb (odB m st) 40 0 0 := cb_cg 40 0 0 rfl (fun j hj => odB_rS h hj)
theorem th_rS {m : aM} {w : Int32} : rS m (a_st m 242 0 w) := fun b j hb => by rw [a_st_ne (by omega)]
theorem z_countI (x : Int32) (F : Nat) (m : aM) (hF : 5000 ≤ F) (h : Iv m) : ZN (f_Led_count F x) (f_Mod_count F x) m := by
  obtain ⟨a1, a2, ⟨st, hL⟩, a4, ⟨c, p, hp⟩, a6, a7⟩ := id h
  obtain ⟨t, t1, t2, t3, hr⟩ := a7.rw
  obtain ⟨s, s1, s2, s3⟩ := a7.sg
  obtain ⟨tp, tp1, tp2, tp3, _⟩ := a1
  have hr' : ∀ k, k < 40 → rw (a_st m 242 0 0) k t := th_rS.rw hr
  have e : ∀ j, j ≠ 0 → a_st m 242 0 0 242 j = m 242 j := fun j hj => a_st_no (by omega)
  have dn : ∀ (A B : Option (Int32 × aM)) (r : Int32), A = some (r, m) → B = some (r, a_st m 242 0 0) → ∃ r m1, A = some (r, m1) ∧ ∃ m2, B = some (r, m2) ∧ Iv m2 ∧ AgP m m2 := fun A B r e1 e2 => ⟨r, m, e1, _, e2, (h.f0 th_fr).1, (h.f0 th_fr).2⟩
  have mn : ∀ κ, κ < 4 → f_Mod_many F (nI κ) (a_st m 242 0 0) = some (cb (kdB m κ) 40 0 0) := fun κ hκ => by rw [m_many hr' hκ (by omega), kdB_rS th_rS]
  -- the class runs first and leaves m; the reference then starts from m
  have key : ∀ (A : Option (Int32 × aM)) (B : aM → Option (Int32 × aM)) (r : Int32), A = some (r, m) → B m = some (r, a_st m 242 0 0) → ∃ r m1, A = some (r, m1) ∧ ∃ m2, B m1 = some (r, m2) ∧ Iv m2 ∧ AgP m m2 := fun A B r e1 e2 => ⟨r, m, e1, _, e2, (h.f0 th_fr).1, (h.f0 th_fr).2⟩
  unfold ZN
  by_cases c0 : x = 0
  · subst c0; exact key _ _ (m 37 6) rfl (by unfold f_Mod_count; simp only [o_let_eq, if_true, e 45 (by decide), s3, s2])
  by_cases c1 : x = 1
  · subst c1; exact key _ _ (m 37 7) rfl (by unfold f_Mod_count; simp only [o_let_eq, if_true, e 46 (by decide), t3, t2, show ¬ (1 : Int32) = 0 by decide, if_false])
  by_cases c2 : x = 2
  · subst c2
    refine key _ _ (cb (thB m) 40 0 0) ?_ ?_
    · unfold f_Led_count f_Tab_manyRows
      simp only [show ¬ (2 : Int32) = 0 by decide, show ¬ (2 : Int32) = 1 by decide, if_false, if_true]
      rw [show ll_Tab_manyRows_4 F F 0 0 m = _ from c_manyRows_l 40 0 F 0 (by omega) (by omega), o_b_some]
    · unfold f_Mod_count
      simp only [o_let_eq, show ¬ (2 : Int32) = 0 by decide, show ¬ (2 : Int32) = 1 by decide, if_false, if_true]
      rw [show f_Mod_many F 0 (a_st m 242 0 0) = _ from mn 0 (by omega), o_b_some, show f_Mod_many F 1 (a_st m 242 0 0) = _ from mn 1 (by omega), o_b_some, show f_Mod_many F 2 (a_st m 242 0 0) = _ from mn 2 (by omega), o_b_some, show f_Mod_many F 3 (a_st m 242 0 0) = _ from mn 3 (by omega), o_b_some, cb_4 hr 40 0 rfl]
  by_cases c3 : x = 3
  · subst c3
    refine key _ _ (cb (kdB m 0) 40 0 0) ?_ ?_
    · unfold f_Led_count
      simp only [show ¬ (3 : Int32) = 0 by decide, show ¬ (3 : Int32) = 1 by decide, show ¬ (3 : Int32) = 2 by decide, if_false, if_true]
      rw [show f_Tab_manyOf F 0 m = _ from c_manyOf (κ := 0) (by omega), o_b_some]
    · unfold f_Mod_count
      simp only [o_let_eq, show ¬ (3 : Int32) = 0 by decide, show ¬ (3 : Int32) = 1 by decide, show ¬ (3 : Int32) = 2 by decide, if_false, if_true]
      rw [show f_Mod_many F 0 (a_st m 242 0 0) = _ from mn 0 (by omega), o_b_some]
  by_cases c4 : x = 4
  · subst c4
    refine key _ _ (cb (kdB m 1) 40 0 0) ?_ ?_
    · unfold f_Led_count
      simp only [show ¬ (4 : Int32) = 0 by decide, show ¬ (4 : Int32) = 1 by decide, show ¬ (4 : Int32) = 2 by decide, show ¬ (4 : Int32) = 3 by decide, if_false, if_true]
      rw [show f_Tab_manyOf F 1 m = _ from c_manyOf (κ := 1) (by omega), o_b_some]
    · unfold f_Mod_count
      simp only [o_let_eq, show ¬ (4 : Int32) = 0 by decide, show ¬ (4 : Int32) = 1 by decide, show ¬ (4 : Int32) = 2 by decide, show ¬ (4 : Int32) = 3 by decide, if_false, if_true]
      rw [show f_Mod_many F 1 (a_st m 242 0 0) = _ from mn 1 (by omega), o_b_some]
  by_cases c5 : x = 5
  · subst c5
    refine key _ _ (cb (kdB m 2) 40 0 0) ?_ ?_
    · unfold f_Led_count
      simp only [show ¬ (5 : Int32) = 0 by decide, show ¬ (5 : Int32) = 1 by decide, show ¬ (5 : Int32) = 2 by decide, show ¬ (5 : Int32) = 3 by decide, show ¬ (5 : Int32) = 4 by decide, if_false, if_true]
      rw [show f_Tab_manyOf F 2 m = _ from c_manyOf (κ := 2) (by omega), o_b_some]
    · unfold f_Mod_count
      simp only [o_let_eq, show ¬ (5 : Int32) = 0 by decide, show ¬ (5 : Int32) = 1 by decide, show ¬ (5 : Int32) = 2 by decide, show ¬ (5 : Int32) = 3 by decide, show ¬ (5 : Int32) = 4 by decide, if_false, if_true]
      rw [show f_Mod_many F 2 (a_st m 242 0 0) = _ from mn 2 (by omega), o_b_some]
  by_cases c6 : x = 6
  · subst c6
    refine key _ _ (cb (kdB m 3) 40 0 0) ?_ ?_
    · unfold f_Led_count
      simp only [show ¬ (6 : Int32) = 0 by decide, show ¬ (6 : Int32) = 1 by decide, show ¬ (6 : Int32) = 2 by decide, show ¬ (6 : Int32) = 3 by decide, show ¬ (6 : Int32) = 4 by decide, show ¬ (6 : Int32) = 5 by decide, if_false, if_true]
      rw [show f_Tab_manyOf F 3 m = _ from c_manyOf (κ := 3) (by omega), o_b_some]
    · unfold f_Mod_count
      simp only [o_let_eq, show ¬ (6 : Int32) = 0 by decide, show ¬ (6 : Int32) = 1 by decide, show ¬ (6 : Int32) = 2 by decide, show ¬ (6 : Int32) = 3 by decide, show ¬ (6 : Int32) = 4 by decide, show ¬ (6 : Int32) = 5 by decide, if_false, if_true]
      rw [show f_Mod_many F 3 (a_st m 242 0 0) = _ from mn 3 (by omega), o_b_some]
  by_cases c7 : x = 7
  · subst c7
    refine key _ _ (cb (brB m) 40 0 0) ?_ ?_
    · unfold f_Led_count
      simp only [if_neg c0, if_neg c1, if_neg c2, if_neg c3, if_neg c4, if_neg c5, if_neg c6, if_true]
      rw [c_manyBroken (by omega), o_b_some]
    · unfold f_Mod_count
      simp only [o_let_eq, if_neg c0, if_neg c1, if_neg c2, if_neg c3, if_neg c4, if_neg c5, if_neg c6, if_true]
      rw [m_broken hr' (by omega), o_b_some, brB_rS th_rS]
  by_cases c8 : x = 8
  · subst c8
    obtain ⟨m1, e1, f1⟩ := c_manyOdd (F := F) hL hF
    have r1 : rS m m1 := fun b j hb => f1 b j (by omega)
    have hL1 : LC (a_st m1 242 0 0) st := hL.fr (fun b j hb => by unfold fL at hb; rw [a_st_no (by omega), f1 b j (by omega)])
    obtain ⟨m2, e2, f2⟩ := m_odd (F := F) (st := st) (m := a_st m1 242 0 0) (m0 := m) (r1.tr th_rS) hr hL1.2 hF
    have fr : Fr sc0 m m2 := ((f1.mono (fun b j hb => by unfold sc0; omega)).tr th_fr).tr (f2.mono (fun b j hb => by unfold fSo fV at hb; unfold sc0; omega))
    refine ⟨cb (odB m st) 40 0 0, m1, ?_, m2, ?_, (h.f0 fr).1, (h.f0 fr).2⟩
    · unfold f_Led_count
      simp only [if_neg c0, if_neg c1, if_neg c2, if_neg c3, if_neg c4, if_neg c5, if_neg c6, if_neg c7, if_true]
      rw [e1, o_b2_some]
    · unfold f_Mod_count
      simp only [o_let_eq, if_neg c0, if_neg c1, if_neg c2, if_neg c3, if_neg c4, if_neg c5, if_neg c6, if_neg c7, if_true]
      rw [e2, o_b2_some]
  by_cases c9 : x = 9
  · subst c9
    obtain ⟨u, ds⟩ := hL.1
    refine key _ _ (m 2 10) ?_ ?_
    · unfold f_Led_count
      simp only [if_neg c0, if_neg c1, if_neg c2, if_neg c3, if_neg c4, if_neg c5, if_neg c6, if_neg c7, if_neg c8, if_true]
    · unfold f_Mod_count
      simp only [o_let_eq, if_neg c0, if_neg c1, if_neg c2, if_neg c3, if_neg c4, if_neg c5, if_neg c6, if_neg c7, if_neg c8, if_true, e 4 (by decide)]
      rw [ds.2.1, hL.2.1]
  by_cases c10 : x = 10
  · subst c10
    refine key _ _ (m 29 5) ?_ ?_
    · unfold f_Led_count
      simp only [if_neg c0, if_neg c1, if_neg c2, if_neg c3, if_neg c4, if_neg c5, if_neg c6, if_neg c7, if_neg c8, if_neg c9, if_true]
    · unfold f_Mod_count
      simp only [o_let_eq, if_neg c0, if_neg c1, if_neg c2, if_neg c3, if_neg c4, if_neg c5, if_neg c6, if_neg c7, if_neg c8, if_neg c9, if_true, e 35 (by decide)]
      rw [hp.2.2.1, hp.2.2.2.1]
  by_cases c11 : x = 11
  · subst c11
    refine key _ _ (m 29 6) ?_ ?_
    · unfold f_Led_count
      simp only [if_neg c0, if_neg c1, if_neg c2, if_neg c3, if_neg c4, if_neg c5, if_neg c6, if_neg c7, if_neg c8, if_neg c9, if_neg c10, if_true]
    · unfold f_Mod_count
      simp only [o_let_eq, if_neg c0, if_neg c1, if_neg c2, if_neg c3, if_neg c4, if_neg c5, if_neg c6, if_neg c7, if_neg c8, if_neg c9, if_neg c10, if_true, e 36 (by decide)]
      rw [hp.2.2.2.2.1, hp.2.2.2.2.2.1]
  by_cases c12 : x = 12
  · subst c12
    refine key _ _ (m 0 1) ?_ ?_
    · unfold f_Led_count
      simp only [if_neg c0, if_neg c1, if_neg c2, if_neg c3, if_neg c4, if_neg c5, if_neg c6, if_neg c7, if_neg c8, if_neg c9, if_neg c10, if_neg c11, if_true]
    · unfold f_Mod_count
      simp only [o_let_eq, if_neg c0, if_neg c1, if_neg c2, if_neg c3, if_neg c4, if_neg c5, if_neg c6, if_neg c7, if_neg c8, if_neg c9, if_neg c10, if_neg c11, if_true, e 1 (by decide)]
      rw [tp2, tp3]
  refine key _ _ (-1) ?_ ?_
  · unfold f_Led_count
    simp only [if_neg c0, if_neg c1, if_neg c2, if_neg c3, if_neg c4, if_neg c5, if_neg c6, if_neg c7, if_neg c8, if_neg c9, if_neg c10, if_neg c11, if_neg c12]
  · unfold f_Mod_count
    simp only [o_let_eq, if_neg c0, if_neg c1, if_neg c2, if_neg c3, if_neg c4, if_neg c5, if_neg c6, if_neg c7, if_neg c8, if_neg c9, if_neg c10, if_neg c11, if_neg c12]
/-- a new stage, new rows -/
def fG : Nat → Nat → Prop := fun b j => sc0 b j ∨ (b = 37 ∧ (j = 6 ∨ j = 9)) ∨ (42 ≤ b ∧ b ≤ 241) ∨ (b = 242 ∧ (j = 45 ∨ j = 49)) ∨ (8473 ≤ b ∧ b ≤ 8641)
theorem Iv.rw {m m2 : aM} (h : Iv m) (f : Fr fG m m2) {s t : Nat} (s5 : s ≤ 5) (hs : m2 37 6 = nI s) (hs' : m2 242 45 = nI s) (ht : t ≤ 10000) (h7 : m 37 7 = nI t) (h7' : m 242 46 = nI t) (h9 : m2 37 9 = m2 242 49 ∧ bd (m2 37 9) 0 40) (hr : ∀ k, k < 40 → rw m2 k t) : Iv m2 ∧ AgP m m2 := by
  obtain ⟨a1, a2, a3, a4, a5, a6, a7⟩ := h
  have r8 := a7.n8
  have r10 := a7.n10
  refine ⟨⟨a1.fr (fun b j hb => f b j (by unfold fG sc0; omega)), a2.fr (fun b j hb => f b j (by unfold fG sc0; omega)), a3.fr (fun b j hb => f b j (by unfold fL at hb; unfold fG sc0; omega)), a4.fr (fun b j hb => f b j (by unfold fG sc0; omega)), a5.fr (fun b j hb => f b j (by unfold fG sc0; omega)), a6.fr (fun b j hb => f b j (by unfold fG sc0; omega)), s, t, s5, ht, hs, hs', (f _ _ (by unfold fG sc0; omega)).trans h7, (f _ _ (by unfold fG sc0; omega)).trans h7', ?_, ?_, h9.1, h9.2, ?_, ?_, hr⟩, Or.inr (fun b j hb => f b j (by unfold fG sc0; omega)), fun b j hb => f b j (by unfold fG sc0; omega)⟩
  · rw [f 37 8 (by unfold fG sc0; omega), f 242 47 (by unfold fG sc0; omega)]; exact r8.1
  · rw [f 37 8 (by unfold fG sc0; omega)]; exact r8.2
  · rw [f 37 10 (by unfold fG sc0; omega), f 242 48 (by unfold fG sc0; omega)]; exact r10.1
  · rw [f 37 10 (by unfold fG sc0; omega)]; exact r10.2
