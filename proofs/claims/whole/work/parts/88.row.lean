/-! CALLS: row -/
theorem c_copy (a0 a1 : Nat) (m : aM) : ∃ m', f_Tab_copyLetters a0 a1 m = some (0, m') ∧ (∀ j, j < 4 → m' a1 j = m a0 j) ∧ Fr (fun b j => b = a1 ∧ j < 4) m m' := by
  unfold f_Tab_copyLetters
  simp only [show ¬ (4 : Int32) < 4 by decide, if_false, show cpg 0 0 4 4 4 = true by decide, o_gd_t, o_let_eq]
  refine ⟨_, rfl, fun j hj => ?_, fun b j hb => ?_⟩
  · rw [a_sf_at]
    exact cpy0 hj
  · by_cases e : b = a1
    · subst e
      rw [a_sf_at]
      have : ¬ j < 4 := fun z => hb ⟨rfl, z⟩
      simp only [va_cpy]
      rw [if_neg]
      intro z
      have z4 : (4 : Int32).toNatClampNeg = 4 := rfl
      have z0 : (0 : Int32).toNatClampNeg = 0 := rfl
      omega
    · rw [a_sf_ne e]
theorem k4 {κ : Nat} (h : κ < 4) : κ = 0 ∨ κ = 1 ∨ κ = 2 ∨ κ = 3 := by omega
theorem c_hasNew {a κ : Nat} {m : aM} (h : m a 3 = nI κ) (hκ : κ < 4) : f_Row_hasNew a m = some (if κ = 1 ∨ κ = 2 then 1 else 0) := by
  unfold f_Row_hasNew
  rw [h]
  rcases k4 hκ with rfl | rfl | rfl | rfl <;> rfl
theorem c_hasOld {a κ : Nat} {m : aM} (h : m a 3 = nI κ) (hκ : κ < 4) : f_Row_hasOld a m = some (if κ = 2 then 0 else 1) := by
  unfold f_Row_hasOld
  rw [h]
  rcases k4 hκ with rfl | rfl | rfl | rfl <;> rfl
theorem c_beside {F k κ : Nat} {st : lS} {m : aM} (hk : k < 40) (hL : LC m st) (h : m (42 + 5 * k) 3 = nI κ) (hκ : κ < 4) (hF : 5000 ≤ F) : ∃ m', f_Tab_besideAsIf F (42 + 5 * k) 41 m = some (0, m') ∧ (∀ j, j < 4 → m' 41 j = if κ = 1 ∨ κ = 2 then m (45 + 5 * k) j else sK st j (m (43 + 5 * k))) ∧ Fr (fun b j => b = 10 ∨ (b = 41 ∧ j < 4)) m m' := by
  unfold f_Tab_besideAsIf
  rw [c_hasNew h hκ, o_b_some]
  by_cases c : κ = 1 ∨ κ = 2
  · obtain ⟨m', e, v, f⟩ := c_copy (42 + 5 * k + 3) 41 m
    simp only [if_pos c, show ¬ (1 : Int32) = 0 by decide, if_false, e, o_b2_some]
    refine ⟨_, rfl, fun j hj => ?_, f.mono (fun b j hb => by omega)⟩
    rw [v j hj, show 42 + 5 * k + 3 = 45 + 5 * k by omega]
  · obtain ⟨u, ds⟩ := hL.1
    obtain ⟨m', e, v, f⟩ := c_toBeside (F := F) (a1 := 42 + 5 * k + 1) (a2 := 41) ds (by omega) (by omega) (by omega)
    simp only [if_neg c, if_true, e, o_b2_some]
    refine ⟨_, rfl, fun j hj => ?_, f.mono (fun b j hb => by omega)⟩
    rw [v j hj, show 42 + 5 * k + 1 = 43 + 5 * k by omega]
theorem c_newAs {F k κ : Nat} {st : lS} {m : aM} (hk : k < 40) (hL : LC m st) (h : m (42 + 5 * k) 3 = nI κ) (hκ : κ < 4) (hF : 5000 ≤ F) : ∃ m', f_Tab_newAsIf F (42 + 5 * k) 40 m = some (0, m') ∧ (∀ j, j < 4 → m' 40 j = if κ = 1 ∨ κ = 2 then m (44 + 5 * k) j else sN st j (m (43 + 5 * k))) ∧ Fr (fun b j => b = 10 ∨ (b = 40 ∧ j < 4)) m m' := by
  unfold f_Tab_newAsIf
  rw [c_hasNew h hκ, o_b_some]
  by_cases c : κ = 1 ∨ κ = 2
  · obtain ⟨m', e, v, f⟩ := c_copy (42 + 5 * k + 2) 40 m
    simp only [if_pos c, show ¬ (1 : Int32) = 0 by decide, if_false, e, o_b2_some]
    refine ⟨_, rfl, fun j hj => ?_, f.mono (fun b j hb => by omega)⟩
    rw [v j hj, show 42 + 5 * k + 2 = 44 + 5 * k by omega]
  · obtain ⟨u, ds⟩ := hL.1
    obtain ⟨m', e, v, f⟩ := c_toNew (F := F) (a1 := 42 + 5 * k + 1) (a2 := 40) ds (by omega) (by omega) (by omega) (by omega)
    simp only [if_neg c, if_true, e, o_b2_some]
    refine ⟨_, rfl, fun j hj => ?_, f.mono (fun b j hb => by omega)⟩
    rw [v j hj, show 42 + 5 * k + 1 = 43 + 5 * k by omega]
theorem c_oldAs {F k κ a : Nat} {st : lS} {m : aM} (hk : k < 40) (ha : 21 ≤ a ∧ a < 42) (hL : LC m st) (h : m (42 + 5 * k) 3 = nI κ) (hκ : κ < 4) (hF : 5000 ≤ F) : ∃ m', f_Tab_oldAsIf F (42 + 5 * k) a m = some (0, m') ∧ (∀ j, j < 4 → m' a j = if κ = 2 then sO st j (m (45 + 5 * k)) (m (44 + 5 * k)) else m (43 + 5 * k) j) ∧ Fr (fun b j => b = 10 ∨ (b = a ∧ j < 4)) m m' := by
  unfold f_Tab_oldAsIf
  rw [c_hasOld h hκ, o_b_some]
  by_cases c : κ = 2
  · obtain ⟨u, ds⟩ := hL.1
    obtain ⟨m', e, v, f⟩ := c_toOld (F := F) (a1 := 42 + 5 * k + 2) (a2 := 42 + 5 * k + 3) (a3 := a) ds (by omega) (by omega) (by omega) (by omega) (by omega) (by omega)
    simp only [if_pos c, if_true, e, o_b2_some]
    refine ⟨_, rfl, fun j hj => ?_, f.mono (fun b j hb => by omega)⟩
    rw [v j hj, show 42 + 5 * k + 2 = 44 + 5 * k by omega, show 42 + 5 * k + 3 = 45 + 5 * k by omega]
  · obtain ⟨m', e, v, f⟩ := c_copy (42 + 5 * k + 1) a m
    simp only [if_neg c, show ¬ (1 : Int32) = 0 by decide, if_false, e, o_b2_some]
    refine ⟨_, rfl, fun j hj => ?_, f.mono (fun b j hb => by omega)⟩
    rw [v j hj, show 42 + 5 * k + 1 = 43 + 5 * k by omega]
theorem n5 {l : Nat} (h : l < 4) : nI (5 + l) - 5 = nI l := by
  match l, h with
  | 0, _ => rfl
  | 1, _ => rfl
  | 2, _ => rfl
  | 3, _ => rfl
theorem c_tellB {F k κ l : Nat} {st : lS} {m : aM} (hk : k < 40) (hl : l < 4) (hL : LC m st) (h : m (42 + 5 * k) 3 = nI κ) (hκ : κ < 4) (hF : 5000 ≤ F) : ∃ m', f_Tab_tellBeside F (42 + 5 * k) (nI l) m = some (if κ = 1 ∨ κ = 2 then m (45 + 5 * k) l else sK st l (m (43 + 5 * k)), m') ∧ Fr sc0 m m' := by
  obtain ⟨m', e, v, f⟩ := c_beside (F := F) hk hL h hκ hF
  refine ⟨m', ?_, f.mono (fun b j hb => by unfold sc0; omega)⟩
  unfold f_Tab_tellBeside
  rw [e, o_b2_some, if_neg (show ¬ nI l < 0 by match l, hl with | 0, _ => decide | 1, _ => decide | 2, _ => decide | 3, _ => decide), if_neg (show ¬ (4 : Int32) ≤ nI l from nI_ge (b := 4) hl (by decide)), inb_nI hl (by decide), o_gd_t, nI_clamp (by omega), v l hl]
theorem z_rowI (x1 x2 : Int32) (F : Nat) (m : aM) (hF : 5000 ≤ F) (h : Iv m) : ZX [IOB, IAE] (f_Led_row F x1 x2) (f_Mod_row F x1 x2) m := by
  obtain ⟨t, t1, t2, t3, hr⟩ := h.2.2.2.2.2.2.rw
  obtain ⟨st, hL⟩ := h.2.2.1
  unfold ZX f_Led_row f_Mod_row b_Mod_row_19 b_Mod_row_42
  simp only [z_checkKey, m_isKey, o_let_eq, o_b_some, z_range, z_in]
  by_cases c : (0 : Int32) ≤ x1 ∧ x1 ≤ 39
  case neg =>
    simp only [if_neg c, o_t_inr]
    refine ⟨_, _, rfl, ?_⟩
    simp only [if_true, z_bad1 (show (1 : Int32) ≠ 0 by decide), o_b2_some, show ¬ (1 : Int32) = 0 by decide, if_false]
    exact ⟨_, _, rfl, ⟨0, rfl, a_st_self⟩, (h.f0 th_fr).1, (h.f0 th_fr).2⟩
  obtain ⟨k, k39, rfl⟩ := rng_nat (n := 39) rfl (by decide) c
  have hk : k < 40 := by omega
  have th := (hr k hk).th
  simp only [if_pos c, o_t_inl, o_b_some, show ¬ (1 : Int32) = 0 by decide, if_false]
  by_cases d : (0 : Int32) ≤ x2 ∧ x2 ≤ 8
  case neg =>
    simp only [if_neg d, o_t_inr]
    refine ⟨_, _, rfl, ?_⟩
    simp only [if_true, z_bad0, z_bad1 (show (2 : Int32) ≠ 0 by decide), o_b2_some, show ¬ (1 : Int32) = 0 by decide, if_false]
    exact ⟨_, _, rfl, ⟨1, rfl, a_st_self⟩, (h.f0 th_fr).1, (h.f0 th_fr).2⟩
  obtain ⟨f, f8, rfl⟩ := rng_nat (n := 8) rfl (by decide) d
  simp only [if_pos d, o_t_inl, show ¬ (1 : Int32) = 0 by decide, if_false]
  unfold f_Tab_tellRow
  simp only [c_there hk, o_b_some, inb_nI hk (by decide), o_gd_t, rwp_n hk, nI_clamp (show k < 2 ^ 31 by omega)]
  by_cases g : m (42 + 5 * k) 3 = -1
  · simp only [if_pos g, if_true, o_b2_some]
    refine ⟨_, _, rfl, ?_⟩
    have e0 : a_st m 242 0 0 8473 k = 0 := by rw [a_st_ne (by decide)]; exact th.mp g
    simp only [z_bad0, o_b2_some, if_true, if_pos e0]
    exact ⟨_, _, rfl, ⟨a_st_self, rfl⟩, (h.f0 th_fr).1, (h.f0 th_fr).2⟩
  obtain ⟨κ, κ4, w3, w4, w5, w6, w7, w8, w9⟩ := (hr k hk).kind g
  have n8473 : ∀ mc : aM, mc 8473 k = m 8473 k → ¬ a_st mc 242 0 0 8473 k = 0 := fun mc e z => g (th.mpr (by rw [a_st_ne (by decide), e] at z; exact z))
  simp only [if_neg g, show ¬ (1 : Int32) = 0 by decide, if_false]
  have hnn : f = 0 ∨ f = 1 ∨ f = 2 ∨ f = 3 ∨ f = 4 ∨ ∃ l, l < 4 ∧ f = 5 + l := by
    by_cases q : f < 5
    · omega
    · exact Or.inr (Or.inr (Or.inr (Or.inr (Or.inr ⟨f - 5, by omega, by omega⟩))))
  rcases hnn with rfl | rfl | rfl | rfl | rfl | ⟨l, hl, rfl⟩
  · refine ⟨_, _, rfl, ?_⟩
    simp only [z_bad0, o_b2_some, if_true, if_neg (n8473 m rfl), show nI 0 = 0 from rfl]
    exact ⟨_, _, rfl, ⟨a_st_self, by rw [a_st_ne (by decide), w3, w4]⟩, (h.f0 th_fr).1, (h.f0 th_fr).2⟩
  · simp only [show ¬ nI 1 = 0 by decide, if_false, show nI 1 = 1 from rfl, if_true, f_Row_isBroken, if_neg g]
    rcases w7 with ⟨q1, q2, q3⟩ | ⟨q1, q2, q3, q4, q5⟩
    · simp only [if_pos q2, o_b_some, if_true]
      refine ⟨_, _, rfl, ?_⟩
      simp only [z_bad0, o_b2_some, if_true, if_neg (n8473 m rfl), show ¬ (4 : Int32) ≤ 1 by decide, show ¬ (1 : Int32) = 0 by decide, if_false, show a_st m 242 0 0 8474 k = 0 by rw [a_st_ne (by decide)]; exact q1]
      exact ⟨_, _, rfl, ⟨a_st_self, rfl⟩, (h.f0 th_fr).1, (h.f0 th_fr).2⟩
    · simp only [if_neg q4, o_b_some, show ¬ (1 : Int32) = 0 by decide, if_false]
      refine ⟨_, _, rfl, ?_⟩
      simp only [z_bad0, o_b2_some, if_true, if_neg (n8473 m rfl), show ¬ (4 : Int32) ≤ 1 by decide, show ¬ (1 : Int32) = 0 by decide, if_false, show a_st m 242 0 0 8474 k = 1 by rw [a_st_ne (by decide)]; exact q1]
      exact ⟨_, _, rfl, ⟨a_st_self, rfl⟩, (h.f0 th_fr).1, (h.f0 th_fr).2⟩
  · simp only [show nI 2 = 2 from rfl, show ¬ (2 : Int32) = 0 by decide, show ¬ (2 : Int32) = 1 by decide, if_false, if_true, f_Row_brokenSince, o_b_some]
    refine ⟨_, _, rfl, ?_⟩
    rcases w7 with ⟨q1, q2, q3⟩ | ⟨q1, q2, q3, q4, q5⟩
    · simp only [z_bad0, o_b2_some, if_true, if_neg (n8473 m rfl), show ¬ (4 : Int32) ≤ 2 by decide, show ¬ (2 : Int32) = 0 by decide, show ¬ (2 : Int32) = 1 by decide, if_false, show a_st m 242 0 0 8474 k = 0 by rw [a_st_ne (by decide)]; exact q1]
      exact ⟨_, _, rfl, ⟨a_st_self, q2⟩, (h.f0 th_fr).1, (h.f0 th_fr).2⟩
    · simp only [z_bad0, o_b2_some, if_true, if_neg (n8473 m rfl), show ¬ (4 : Int32) ≤ 2 by decide, show ¬ (2 : Int32) = 0 by decide, show ¬ (2 : Int32) = 1 by decide, show ¬ (1 : Int32) = 0 by decide, if_false, show a_st m 242 0 0 8474 k = 1 by rw [a_st_ne (by decide)]; exact q1]
      exact ⟨_, _, rfl, ⟨a_st_self, by rw [a_st_ne (by decide)]; exact q2⟩, (h.f0 th_fr).1, (h.f0 th_fr).2⟩
  · simp only [show nI 3 = 3 from rfl, show ¬ (3 : Int32) = 0 by decide, show ¬ (3 : Int32) = 1 by decide, show ¬ (3 : Int32) = 2 by decide, if_false, if_true, f_Row_brokenBy, o_b_some]
    refine ⟨_, _, rfl, ?_⟩
    rcases w7 with ⟨q1, q2, q3⟩ | ⟨q1, q2, q3, q4, q5⟩
    · simp only [z_bad0, o_b2_some, if_true, if_neg (n8473 m rfl), show ¬ (4 : Int32) ≤ 3 by decide, show ¬ (3 : Int32) = 0 by decide, show ¬ (3 : Int32) = 1 by decide, if_false, show a_st m 242 0 0 8474 k = 0 by rw [a_st_ne (by decide)]; exact q1]
      exact ⟨_, _, rfl, ⟨a_st_self, q3⟩, (h.f0 th_fr).1, (h.f0 th_fr).2⟩
    · simp only [z_bad0, o_b2_some, if_true, if_neg (n8473 m rfl), show ¬ (4 : Int32) ≤ 3 by decide, show ¬ (3 : Int32) = 0 by decide, show ¬ (3 : Int32) = 1 by decide, show ¬ (3 : Int32) = 2 by decide, show ¬ (1 : Int32) = 0 by decide, if_false, show a_st m 242 0 0 8474 k = 1 by rw [a_st_ne (by decide)]; exact q1]
      exact ⟨_, _, rfl, ⟨a_st_self, by rw [a_st_ne (by decide)]; exact q3⟩, (h.f0 th_fr).1, (h.f0 th_fr).2⟩
  · obtain ⟨y, m4, e4, y1, y2, f4⟩ := c_isOdd (F := F) hk hL hF
    have r4 : rS m m4 := fun b j hb => f4 b j (by omega)
    have hL4 : LC m4 st := hL.fr (fun b j hb => f4 b j (by unfold fL at hb; omega))
    have rs : rS m (a_st m4 242 0 0) := r4.tr th_rS
    obtain ⟨z, m6, e6, z1, z2, f6⟩ := m_isOdd (F := F) hk (rs.rw hr k hk) (hL4.2.fr (fun b j hb => by unfold fL at hb; rw [a_st_no (by omega)])) hF
    have yz : y = z := by
      have ob : odB (a_st m4 242 0 0) st k = odB m st k := odB_rS rs hk
      have oo : odP (a_st m4 242 0 0) st k ↔ odP m st k := by rw [← odB_t, ← odB_t, ob]
      have : y = 1 ↔ z = 1 := y2.trans (oo.symm.trans z2.symm)
      rcases y1 with rfl | rfl
      · rcases z1 with rfl | rfl
        · rfl
        · exact absurd (this.mpr rfl) (by decide)
      · exact (this.mp rfl).symm
    subst yz
    have fr : Fr sc0 m m6 := ((f4.mono (fun b j hb => by unfold sc0; omega)).tr th_fr).tr (f6.mono (fun b j hb => by unfold fSo fV at hb; unfold sc0; omega))
    have t0 : m6 242 0 = 0 := by rw [f6 _ _ (by unfold fSo fV; omega), a_st_self]
    simp only [show nI 4 = 4 from rfl, show ¬ (4 : Int32) = 0 by decide, show ¬ (4 : Int32) = 1 by decide, show ¬ (4 : Int32) = 2 by decide, show ¬ (4 : Int32) = 3 by decide, if_false, if_true, e4, o_b2_some]
    rcases y1 with rfl | rfl
    · simp only [if_true, o_b2_some]
      refine ⟨_, _, rfl, ?_⟩
      simp only [z_bad0, o_b2_some, if_true, if_neg (n8473 m4 (r4 _ _ (by omega))), show ¬ (4 : Int32) = 0 by decide, show (4 : Int32) ≤ 4 by decide, if_false, e6]
      exact ⟨_, _, rfl, ⟨t0, rfl⟩, (h.f0 fr).1, (h.f0 fr).2⟩
    · simp only [show ¬ (1 : Int32) = 0 by decide, if_false, o_b2_some]
      refine ⟨_, _, rfl, ?_⟩
      simp only [z_bad0, o_b2_some, if_true, if_neg (n8473 m4 (r4 _ _ (by omega))), show ¬ (4 : Int32) = 0 by decide, show ¬ (1 : Int32) = 0 by decide, show (4 : Int32) ≤ 4 by decide, if_false, e6]
      exact ⟨_, _, rfl, ⟨t0, rfl⟩, (h.f0 fr).1, (h.f0 fr).2⟩
  · obtain ⟨m4, e4, f4⟩ := c_tellB (F := F) hk hl hL w3 κ4 hF
    have ne : ∀ q : Nat, q < 5 → ¬ nI (5 + l) = nI q := fun q hq z => by have := nI_inj (by omega) (by omega) z; omega
    have n0 : ¬ nI (5 + l) = 0 := ne 0 (by omega)
    have n1 : ¬ nI (5 + l) = 1 := ne 1 (by omega)
    have n2 : ¬ nI (5 + l) = 2 := ne 2 (by omega)
    have n3 : ¬ nI (5 + l) = 3 := ne 3 (by omega)
    have n4 : ¬ nI (5 + l) = 4 := ne 4 (by omega)
    have g4 : (4 : Int32) ≤ nI (5 + l) := (nI_leI (a := 4) (b := 5 + l) (by omega) (by omega)).mpr (by omega)
    simp only [if_neg n0, if_neg n1, if_neg n2, if_neg n3, if_neg n4, n5 hl, e4, o_b2_some]
    refine ⟨_, _, rfl, ?_⟩
    have fr : Fr sc0 m (a_st m4 242 0 0) := f4.tr th_fr
    have hLm : ML (a_st m4 242 0 0) st := hL.2.fr (fun b j hb => fr b j (by unfold fL at hb; unfold sc0; omega))
    have e75 : a_st m4 242 0 0 8475 k = nI κ := by rw [fr _ _ (by unfold sc0; omega), w4]
    simp only [z_bad0, o_b2_some, if_true, if_neg (n8473 m4 (f4 _ _ (by unfold sc0; omega))), if_neg n0, if_pos g4, if_neg n4, b_Mod_row_173, e75, n5 hl, inb_nI hk (by decide), inb_nI hl (by decide), o_gd_t, o_let_eq, nI_clamp (show k < 2 ^ 31 by omega), nI_clamp (show l < 2 ^ 31 by omega), m_isKept hLm hl, o_b_some]
    have a61 : a_st m4 242 0 0 (8561 + k) l = m (8561 + k) l := fr _ _ (by unfold sc0; omega)
    have a79 : a_st m4 242 0 0 (8479 + k) l = m (8479 + k) l := fr _ _ (by unfold sc0; omega)
    rcases k4 κ4 with rfl | rfl | rfl | rfl
    · simp only [show nI 0 = 0 from rfl, show ¬ (0 : Int32) = 1 by decide, show ¬ (0 : Int32) = 2 by decide, if_false]
      by_cases s : st.2.1 l = true
      · simp only [if_pos s, show ¬ (1 : Int32) = 0 by decide, if_false]
        refine ⟨_, _, rfl, ⟨a_st_self, ?_⟩, (h.f0 fr).1, (h.f0 fr).2⟩
        unfold sK
        rw [if_neg (by omega), if_pos s, a79]
        exact w5 l hl
      · simp only [if_neg s, if_true]
        refine ⟨_, _, rfl, ⟨a_st_self, ?_⟩, (h.f0 fr).1, (h.f0 fr).2⟩
        unfold sK
        rw [if_neg (by omega), if_neg s]
    · simp only [show nI 1 = 1 from rfl, if_true]
      refine ⟨_, _, rfl, ⟨a_st_self, ?_⟩, (h.f0 fr).1, (h.f0 fr).2⟩
      rw [if_pos (Or.inl trivial), a61]
      exact (w6 (Or.inl rfl) l hl).2
    · simp only [show nI 2 = 2 from rfl, show ¬ (2 : Int32) = 1 by decide, if_false, if_true]
      refine ⟨_, _, rfl, ⟨a_st_self, ?_⟩, (h.f0 fr).1, (h.f0 fr).2⟩
      rw [if_pos (Or.inr trivial), a61]
      exact (w6 (Or.inr rfl) l hl).2
    · simp only [show nI 3 = 3 from rfl, show ¬ (3 : Int32) = 1 by decide, show ¬ (3 : Int32) = 2 by decide, if_false]
      by_cases s : st.2.1 l = true
      · simp only [if_pos s, show ¬ (1 : Int32) = 0 by decide, if_false]
        refine ⟨_, _, rfl, ⟨a_st_self, ?_⟩, (h.f0 fr).1, (h.f0 fr).2⟩
        unfold sK
        rw [if_neg (by omega), if_pos s, a79]
        exact w5 l hl
      · simp only [if_neg s, if_true]
        refine ⟨_, _, rfl, ⟨a_st_self, ?_⟩, (h.f0 fr).1, (h.f0 fr).2⟩
        unfold sK
        rw [if_neg (by omega), if_neg s]
