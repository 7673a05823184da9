/-! CALLS: mend, row -/
theorem z_checkThere {k : Nat} {m : aM} (hk : k < 40) : f_Led_checkThere (nI k) m = some (if m (42 + 5 * k) 3 = -1 then .inr NSE else .inl 0) := by
  unfold f_Led_checkThere
  rw [c_there hk, o_b_some]
  by_cases c : m (42 + 5 * k) 3 = -1
  · simp only [if_pos c, if_true]
  · simp only [if_neg c, show ¬ (1 : Int32) = 0 by decide, if_false]
/-- a row that is there: kind -/
theorem rw.kind {m : aM} {k t : Nat} (h : rw m k t) (hn : ¬ m (42 + 5 * k) 3 = -1) : rwT m k t := by
  rcases h.2 with ⟨_, h2⟩ | ⟨_, h2⟩
  · exact absurd h2 hn
  · exact h2
theorem z_mendI (x : Int32) (F : Nat) (m : aM) (hF : 5000 ≤ F) (h : Iv m) : ZX [IOB, NSE] (f_Led_mend F x) (f_Mod_mend F x) m := by
  obtain ⟨t, t1, t2, t3, hr⟩ := h.2.2.2.2.2.2.rw
  have n9 := h.2.2.2.2.2.2.n9
  obtain ⟨st, hL⟩ := h.2.2.1
  unfold ZX f_Led_mend f_Mod_mend b_Mod_mend_19 b_Mod_mend_41 f_Tab_mendRow
  simp only [z_checkKey, m_isKey, o_let_eq, o_b_some]
  by_cases c : (0 : Int32) ≤ x ∧ x ≤ 39
  case neg =>
    simp only [if_neg c, o_t_inr]
    refine ⟨_, _, rfl, ?_⟩
    simp only [if_true, z_bad1 (show (1 : Int32) ≠ 0 by decide), o_b2_some, show ¬ (1 : Int32) = 0 by decide, if_false]
    exact ⟨_, _, rfl, ⟨0, rfl, a_st_self⟩, (h.f0 th_fr).1, (h.f0 th_fr).2⟩
  obtain ⟨k, k39, rfl⟩ := rng_nat (n := 39) rfl (by decide) c
  have hk : k < 40 := by omega
  have th := (hr k hk).th
  simp only [if_pos c, o_t_inl, z_checkThere hk, c_there hk, o_b_some, show ¬ (1 : Int32) = 0 by decide, if_false]
  by_cases d : m (42 + 5 * k) 3 = -1
  · simp only [if_pos d, o_t_inr]
    refine ⟨_, _, rfl, ?_⟩
    have e0 : a_st m 242 0 0 8473 k = 0 := by rw [a_st_ne (by decide)]; exact th.mp d
    simp only [z_bad0, o_b2_some, if_true, inb_nI hk (by decide), o_gd_t, nI_clamp (show k < 2 ^ 31 by omega), e0, z_bad1 (show (2 : Int32) ≠ 0 by decide), show ¬ (1 : Int32) = 0 by decide, if_false]
    exact ⟨_, _, rfl, ⟨1, rfl, a_st_self⟩, (h.f0 th_fr).1, (h.f0 th_fr).2⟩
  simp only [if_neg d, o_t_inl, show ¬ (1 : Int32) = 0 by decide, if_false, inb_nI hk (by decide), o_gd_t, rwp_n hk]
  obtain ⟨y, m4, e4, y1, y2, f4⟩ := c_isOdd (F := F) hk hL hF
  have r4 : rS m m4 := fun b j hb => f4 b j (by omega)
  have hL4 : LC m4 st := hL.fr (fun b j hb => f4 b j (by unfold fL at hb; omega))
  rw [e4]
  simp only [o_b2_some]
  have e8473 : ∀ mc : aM, mc 8473 k = m 8473 k → ¬ a_st mc 242 0 0 8473 k = 0 := fun mc e z => d (th.mpr (by rw [a_st_ne (by decide), e] at z; exact z))
  rcases y1 with rfl | rfl
  · simp only [if_true, show isb 0 = true from rfl, o_gd_t, o_b2_some]
    refine ⟨_, _, rfl, ?_⟩
    have rs : rS m (a_st m4 242 0 0) := r4.tr th_rS
    obtain ⟨z, m6, e6, z1, z2, f6⟩ := m_isOdd (F := F) hk (rs.rw hr k hk) (hL4.2.fr (fun b j hb => by unfold fL at hb; rw [a_st_no (by omega)])) hF
    have z0 : z = 0 := by
      rcases z1 with q | q
      · exact q
      · have o1 := z2.mp q
        have : odB (a_st m4 242 0 0) st k = odB m st k := odB_rS rs hk
        exact absurd (y2.mpr (odB_t.mp (by rw [← this]; exact odB_t.mpr o1))) (by decide)
    subst z0
    simp only [z_bad0, o_b2_some, if_true, if_neg (e8473 m4 (r4 _ _ (by omega))), nI_clamp (show k < 2 ^ 31 by omega), e6, show isb 0 = true from rfl, o_gd_t]
    have fr : Fr sc0 m m6 := ((f4.mono (fun b j hb => by unfold sc0; omega)).tr th_fr).tr (f6.mono (fun b j hb => by unfold fSo fV at hb; unfold sc0; omega))
    exact ⟨_, _, rfl, ⟨by rw [f6 _ _ (by unfold fSo fV; omega), a_st_self], rfl⟩, (h.f0 fr).1, (h.f0 fr).2⟩
  · simp only [show ¬ (1 : Int32) = 0 by decide, if_false]
    obtain ⟨m7, e7, v7, f7⟩ := c_seeAnew (F := F) hk hL4 hF
    rw [e7]
    simp only [o_b2_some, show isb 1 = true from rfl, o_gd_t]
    refine ⟨_, _, rfl, ?_⟩
    have od := y2.mp rfl
    obtain ⟨κ, κ4, w3, w4, w5, w6, w7, w8, w9⟩ := (hr k hk).kind d
    have κ1 : κ = 1 := nI_inj (by omega) (by decide) (w3.symm.trans od.1)
    subst κ1
    have fc : Fr (fun b j => b = 10 ∨ b = 40 ∨ ((b = 44 + 5 * k ∨ b = 45 + 5 * k) ∧ j < 4)) m m7 := (f4.mono (fun b j hb => by omega)).tr (f7.mono (fun b j hb => by unfold fSa at hb; omega))
    have e43 : m4 (43 + 5 * k) = m (43 + 5 * k) := funext fun j => f4 _ _ (by omega)
    rw [e43] at v7
    -- the reference sees that the row is odd, by its own cells
    have hLm : ML (a_st m7 242 0 0) st := hL.2.fr (fun b j hb => by unfold fL at hb; rw [a_st_no (by omega), fc b j (by omega)])
    have mo : ∃ m8, f_Mod_isOdd F (nI k) (a_st m7 242 0 0) = some (1, m8) ∧ Fr fSo (a_st m7 242 0 0) m8 := by
      unfold f_Mod_isOdd
      have q1 : ¬ a_st m7 242 0 0 8473 k = 0 := e8473 m7 (fc _ _ (by omega))
      have q2 : a_st m7 242 0 0 8475 k = 1 := by rw [a_st_ne (by decide), fc _ _ (by omega), w4]; rfl
      obtain ⟨m8, e8, v8, f8⟩ := m_seesOf (F := F) hk hLm hF
      obtain ⟨z, ez, z1, z2⟩ := m_isOdd_l (F := F) (m := m8) hk 4 0 F (by omega) (by omega)
      rw [inb_nI hk (by decide), o_gd_t, nI_clamp (by omega), if_neg q1, o_gd_t, if_pos q2, e8, o_b2_some, show ll_Mod_isOdd_28 F F (nI k) 0 m8 = _ from ez]
      have a79 : ∀ j, j < 4 → a_st m7 242 0 0 (8479 + k) j = m (43 + 5 * k) j := fun j hj => by rw [a_st_ne (by omega), fc _ _ (by omega)]; exact (w5 j hj).symm
      rcases z1 with rfl | rfl
      · refine absurd (fun j hj => ?_) od.2
        have := z2.mp rfl j (by omega) hj
        have q : m8 (8520 + k) j = m (44 + 5 * k) j := by
          rw [f8 _ _ (by unfold fSo fV; omega), a_st_ne (by omega), fc _ _ (by omega)]
          exact ((w6 (Or.inl rfl)) j hj).1.symm
        rw [(v8 j hj).2.2, q] at this
        rw [← this]
        exact sN_cg hL.2 hj (fun q hq => (a79 q hq).symm)
      · exact ⟨m8, rfl, f8⟩
    obtain ⟨m8, e8, f8⟩ := mo
    have hL8 : ML m8 st := hLm.fr (fun b j hb => f8 b j (by unfold fL at hb; unfold fSo fV; omega))
    obtain ⟨m9, e9, v9, f9⟩ := m_takesSeen (F := F) hk hL8 hF
    simp only [z_bad0, o_b2_some, if_true, if_neg (e8473 m7 (fc _ _ (by omega))), nI_clamp (show k < 2 ^ 31 by omega), e8, show ¬ (1 : Int32) = 0 by decide, if_false, e9, show isb 1 = true from rfl, o_gd_t]
    have to : ∀ b j, ¬ (b = 10 ∨ b = 40 ∨ ((b = 44 + 5 * k ∨ b = 45 + 5 * k) ∧ j < 4)) → ¬ fSo b j → ¬ (b = 242 ∧ j = 0) → ¬ ((b = 8520 + k ∨ b = 8561 + k) ∧ j < 4) → m9 b j = m b j := fun b j z1 z2 z3 z4 => by rw [f9 b j (fun q => q.elim z2 z4), f8 b j z2, a_st_no z3, fc b j z1]
    have a8 : ∀ j, j < 4 → m8 (8479 + k) j = m (43 + 5 * k) j := fun j hj => by rw [f8 _ _ (by unfold fSo fV; omega), a_st_ne (by omega), fc _ _ (by omega)]; exact (w5 j hj).symm
    have cl : ∀ b j, 42 ≤ b → b ≤ 241 → m9 b j = m7 b j := fun b j b1 b2 => by rw [f9 b j (by unfold fSo fV; omega), f8 b j (by unfold fSo fV; omega), a_st_ne (by omega)]
    have iv := h.ro (m2 := m9) (fun b j hb => by unfold fG sc0 at hb; exact to b j (by omega) (by unfold fSo fV; omega) (by omega) (by omega)) (to _ _ (by omega) (by unfold fSo fV; omega) (by omega) (by omega)) (to _ _ (by omega) (by unfold fSo fV; omega) (by omega) (by omega)) (by rw [to 37 9 (by omega) (by unfold fSo fV; omega) (by omega) (by omega), to 242 49 (by omega) (by unfold fSo fV; omega) (by omega) (by omega)]; exact n9) t1 t2 t3 (fun q hq => by
      by_cases e : q = k
      · subst e
        have sm : ∀ b j, (b = 42 + 5 * q ∨ b = 43 + 5 * q ∨ b = 46 + 5 * q ∨ (8473 ≤ b ∧ b ≤ 8477) ∨ b = 8479 + q ∨ b = 8602 + q) → m9 b j = m b j := fun b j hb => to b j (by omega) (by unfold fSo fV; omega) (by omega) (by omega)
        refine ⟨fun f hf => by rw [sm _ _ (by omega)]; exact (hr q hq).1 f hf, Or.inr ⟨?_, 1, by omega, (sm _ _ (by omega)).trans w3, (sm _ _ (by omega)).trans w4, fun j hj => ?_, fun _ j hj => ?_, ?_, fun f hf => ?_, ?_⟩⟩
        · rw [sm _ _ (by omega)]
          rcases (hr q hq).th1 with z | z
          · exact absurd (th.mpr z) d
          · exact z
        · rw [sm _ _ (by omega), sm (8479 + q) _ (by omega)]; exact w5 j hj
        · rw [cl (44 + 5 * q) j (by omega) (by omega), cl (45 + 5 * q) j (by omega) (by omega), (v7 j hj).1, (v7 j hj).2, (v9 j hj).1, (v9 j hj).2]
          exact ⟨sN_cg hL.2 hj (fun r hr' => (a8 r hr').symm), sK_cg hj (fun r hr' => (a8 r hr').symm)⟩
        · rw [sm 8474 q (by omega), sm (42 + 5 * q) 4 (by omega), sm (42 + 5 * q) 5 (by omega), sm 8476 q (by omega), sm 8477 q (by omega)]; exact w7
        · rw [sm (42 + 5 * q) 6 (by omega), sm (46 + 5 * q) f (by omega), sm (8602 + q) f (by omega)]; exact w8 f hf
        · rw [sm (42 + 5 * q) 6 (by omega)]; exact w9
      · exact (hr q hq).fr hq (fun b j hb => to b j (by omega) (by unfold fSo fV; omega) (by omega) (by omega)))
    exact ⟨_, _, rfl, ⟨by rw [f9 _ _ (by unfold fSo fV; omega), f8 _ _ (by unfold fSo fV; omega), a_st_self], rfl⟩, iv.1, iv.2⟩
