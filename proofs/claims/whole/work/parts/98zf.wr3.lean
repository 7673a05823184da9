/-! CALLS: write -/
/-- like AgP, but cells z, z + 1 are new -/
def AgZ (z : Nat) (m m2 : aM) : Prop := (∀ b j, (b = 29 ∧ (j = 5 ∨ j = 6 ∨ j = 7)) ∨ (30 ≤ b ∧ b ≤ 34) → m2 b j = m b j) ∧ ∀ b j, 8692 ≤ b → b ≠ z → b ≠ z + 1 → m2 b j = m b j
def fWI (z : Nat) : Nat → Nat → Prop := fun b j => sc0 b j ∨ b = 36 ∨ (42 ≤ b ∧ b ≤ 241) ∨ (8473 ≤ b ∧ b ≤ 8641) ∨ (8643 ≤ b ∧ b ≤ 8691) ∨ b = z ∨ b = z + 1
theorem Iv.wr {m m2 : aM} {z : Nat} (hz : 8692 ≤ z) (h : Iv m) (f : Fr (fWI z) m m2) (ha : iA m2) {t : Nat} (t1 : t ≤ 10000) (t2 : m 37 7 = nI t) (t3 : m 242 46 = nI t) (hr : ∀ k, k < 40 → rowC m2 k t) : Iv m2 ∧ AgZ z m m2 := by
  obtain ⟨a1, a2, a3, a4, a5, a6, a7⟩ := h
  obtain ⟨s, t', s5, _, s1, s2, s3, s4, s6, s7, s8, s9, s10, s11, _⟩ := a7
  have u : ∀ j, m2 37 j = m 37 j := fun j => f _ _ (by unfold fWI sc0; omega)
  have w : ∀ j, 45 ≤ j → m2 242 j = m 242 j := fun j hj => f _ _ (by unfold fWI sc0; omega)
  refine ⟨⟨a1.fr (fun b j hb => f b j (by unfold fWI sc0; omega)), a2.fr (fun b j hb => f b j (by unfold fWI sc0; omega)), a3.fr (fun b j hb => f b j (by unfold fL at hb; unfold fWI sc0; omega)), a4.fr (fun b j hb => f b j (by unfold fWI sc0; omega)), a5.fr (fun b j hb => f b j (by unfold fWI sc0; omega)), ha, s, t, s5, t1, ?_, ?_, ?_, ?_, ?_, ?_, ?_, ?_, ?_, ?_, hr⟩, fun b j hb => f b j (by unfold fWI sc0; omega), fun b j h1 h2 h3 => f b j (by unfold fWI sc0; omega)⟩
  · rw [u, s1]
  · rw [w 45 (by omega), s2]
  · rw [u, t2]
  · rw [w 46 (by omega), t3]
  · rw [u, w 47 (by omega), s6]
  · rw [u]; exact s7
  · rw [u, w 49 (by omega), s8]
  · rw [u]; exact s9
  · rw [u, w 48 (by omega), s10]
  · rw [u]; exact s11
theorem sc0_z {m : aM} {z : Nat} {x : Int32} (h : Iv m) : Iv (a_st m 242 0 x) ∧ AgZ z m (a_st m 242 0 x) := ⟨(h.f0 th_fr).1, fun b j hb => a_st_no (by omega), fun b j h1 _ _ => a_st_no (by omega)⟩
theorem z_writeI (x1 x2 x3 x4 x5 : Int32) (F z : Nat) (m : aM) (hF : 5000 ≤ F) (hz : 8692 ≤ z) (h : Iv m) : ∃ r m1, f_Led_write F x1 x2 x3 x4 x5 m = some (r, m1) ∧ ∃ v z' m2, f_Mod_write F z x1 x2 x3 x4 x5 m1 = some ((v, z'), m2) ∧ (z ≤ z' ∧ z' ≤ z + 2) ∧ Co [IOB, IAE, NSE] r v (m2 242 0) ∧ Iv m2 ∧ AgZ z m m2 := by
  obtain ⟨t, t1, t2, t3, hr⟩ := h.2.2.2.2.2.2.rw
  have m8 : m 37 8 = m 242 47 := by
    obtain ⟨_, _, _, _, _, _, _, _, q, _⟩ := h.2.2.2.2.2.2
    exact q
  obtain ⟨st, hL⟩ := h.2.2.1
  unfold f_Led_write f_Mod_write b_Mod_write_19 b_Mod_write_70 b_Mod_write_75 b_Mod_write_97
  simp only [z_checkKey, m_isKey, o_let_eq, o_b_some, z_checkAsked, z_range, z_in]
  by_cases c : (0 : Int32) ≤ x2 ∧ x2 ≤ 39
  case neg =>
    simp only [if_neg c, o_t_inr]
    refine ⟨_, _, rfl, ?_⟩
    simp only [if_true, z_bad1 (show (1 : Int32) ≠ 0 by decide), o_b2_some, show ¬ (1 : Int32) = 0 by decide, if_false]
    exact ⟨_, _, _, rfl, by omega, ⟨0, rfl, a_st_self⟩, (sc0_z (z := z) h).1, (sc0_z h).2⟩
  obtain ⟨k, k39, rfl⟩ := rng_nat (n := 39) rfl (by decide) c
  have hk : k < 40 := by omega
  have th := (hr k hk).th
  simp only [if_pos c, o_t_inl, o_b_some, show ¬ (1 : Int32) = 0 by decide, if_false]
  by_cases d : (((0 : Int32) ≤ x1 ∧ x1 ≤ 7) ∧ (0 ≤ x3 ∧ x3 ≤ 1) ∧ (0 ≤ x4 ∧ x4 ≤ 3)) ∧ (-1000000 ≤ x5 ∧ x5 ≤ 1000000)
  case neg =>
    have cl : (if ((0 : Int32) ≤ x1 ∧ x1 ≤ 7) ∧ (0 ≤ x3 ∧ x3 ≤ 1) ∧ (0 ≤ x4 ∧ x4 ≤ 3) then (Sum.inl 0 : oX) else Sum.inr IAE) = Sum.inr IAE ∨ ((if ((0 : Int32) ≤ x1 ∧ x1 ≤ 7) ∧ (0 ≤ x3 ∧ x3 ≤ 1) ∧ (0 ≤ x4 ∧ x4 ≤ 3) then (Sum.inl 0 : oX) else Sum.inr IAE) = Sum.inl 0 ∧ (if (-1000000 : Int32) ≤ x5 ∧ x5 ≤ 1000000 then (Sum.inl 0 : oX) else Sum.inr IAE) = Sum.inr IAE) := by
      by_cases q : ((0 : Int32) ≤ x1 ∧ x1 ≤ 7) ∧ (0 ≤ x3 ∧ x3 ≤ 1) ∧ (0 ≤ x4 ∧ x4 ≤ 3)
      · exact Or.inr ⟨if_pos q, if_neg (fun y => d ⟨q, y⟩)⟩
      · exact Or.inl (if_neg q)
    have e2 := sc0_z (z := z) (x := 2) h
    have fin : ∀ m1, m1 = m → ∃ v z' m2, f_Mod_write F z x1 (nI k) x3 x4 x5 m1 = some ((v, z'), m2) ∧ (z ≤ z' ∧ z' ≤ z + 2) ∧ Co [IOB, IAE, NSE] (.inr IAE) v (m2 242 0) ∧ Iv m2 ∧ AgZ z m m2 := fun m1 e => by
      subst e
      unfold f_Mod_write b_Mod_write_19 b_Mod_write_70 b_Mod_write_75
      simp only [m_isKey, o_let_eq, o_b_some, z_in, if_pos c, show ¬ (1 : Int32) = 0 by decide, if_false, z_bad0, o_b2_some, if_true]
      by_cases d1 : (0 : Int32) ≤ x1 ∧ x1 ≤ 7
      · by_cases d2 : (0 : Int32) ≤ x3 ∧ x3 ≤ 1
        · by_cases d3 : (0 : Int32) ≤ x4 ∧ x4 ≤ 3
          · have d4 : ¬ ((-1000000 : Int32) ≤ x5 ∧ x5 ≤ 1000000) := fun y => d ⟨⟨d1, d2, d3⟩, y⟩
            simp only [if_pos d1, if_pos d2, if_pos d3, if_neg d4, if_true, z_bad1 (show (2 : Int32) ≠ 0 by decide), o_b2_some, show ¬ (1 : Int32) = 0 by decide, if_false]
            exact ⟨_, _, _, rfl, by omega, ⟨1, rfl, a_st_self⟩, e2.1, e2.2⟩
          · simp only [if_pos d1, if_pos d2, if_neg d3, if_true, z_bad1 (show (2 : Int32) ≠ 0 by decide), o_b2_some, show ¬ (1 : Int32) = 0 by decide, if_false]
            exact ⟨_, _, _, rfl, by omega, ⟨1, rfl, a_st_self⟩, e2.1, e2.2⟩
        · simp only [if_pos d1, if_neg d2, if_true, z_bad1 (show (2 : Int32) ≠ 0 by decide), o_b2_some, show ¬ (1 : Int32) = 0 by decide, if_false]
          exact ⟨_, _, _, rfl, by omega, ⟨1, rfl, a_st_self⟩, e2.1, e2.2⟩
      · simp only [if_neg d1, if_true, z_bad1 (show (2 : Int32) ≠ 0 by decide), o_b2_some, show ¬ (1 : Int32) = 0 by decide, if_false]
        exact ⟨_, _, _, rfl, by omega, ⟨1, rfl, a_st_self⟩, e2.1, e2.2⟩
    have fin' := fin m rfl
    unfold f_Mod_write b_Mod_write_19 b_Mod_write_70 b_Mod_write_75 b_Mod_write_97 at fin'
    simp only [m_isKey, o_let_eq, o_b_some, z_in, if_pos c, show ¬ (1 : Int32) = 0 by decide, if_false] at fin'
    rcases cl with q | ⟨q1, q2⟩
    · rw [q, o_t_inr]
      exact ⟨_, _, rfl, fin'⟩
    · rw [q1, o_t_inl, q2, o_t_inr]
      exact ⟨_, _, rfl, fin'⟩
  obtain ⟨dA, d4⟩ := d
  obtain ⟨d1, d2, d3⟩ := id dA
  simp only [if_pos dA, if_pos d1, if_pos d2, if_pos d3, if_pos d4, and_self, o_t_inl, if_true, show ¬ (1 : Int32) = 0 by decide, if_false, z_checkThere hk, inb_nI hk (by decide), o_gd_t, nI_clamp (show k < 2 ^ 31 by omega)]
  obtain ⟨p, p7, rfl⟩ := rng_nat (n := 7) rfl (by decide) d1
  obtain ⟨f, f1, rfl⟩ := rng_nat (n := 1) rfl (by decide) d2
  obtain ⟨l, l3, rfl⟩ := rng_nat (n := 3) rfl (by decide) d3
  have hp : p < 8 := by omega
  have hf : f < 2 := by omega
  have hl : l < 4 := by omega
  by_cases g : m (42 + 5 * k) 3 = -1
  · simp only [if_pos g, o_t_inr]
    refine ⟨_, _, rfl, ?_⟩
    have e0 : a_st m 242 0 0 8473 k = 0 := by rw [a_st_ne (by decide)]; exact th.mp g
    simp only [z_bad0, o_b2_some, if_true, if_pos e0, z_bad1 (show (3 : Int32) ≠ 0 by decide), show ¬ (1 : Int32) = 0 by decide, if_false]
    exact ⟨_, _, _, rfl, by omega, ⟨2, rfl, a_st_self⟩, (sc0_z (z := z) h).1, (sc0_z h).2⟩
  obtain ⟨κ, κ4, w3, w4, w5, w6, w7, w8, w9⟩ := (hr k hk).kind g
  have e1f : (1 : Int32) - nI f = nI (1 - f) := nI_subn (a := 1) (by omega)
  have hg2 : 1 - f < 2 := by omega
  have there : m 8473 k = 1 := by
    rcases (hr k hk).2 with ⟨_, q⟩ | ⟨q, _⟩
    · exact absurd q g
    · exact q
  unfold f_Tab_writeLetter
  simp only [if_neg g, o_t_inl, c_there hk, o_b_some, show ¬ (1 : Int32) = 0 by decide, if_false, if_neg (nI_pos (n := l) (by omega)), if_pos (show nI l < 4 from nI_lt (b := 4) hl (by decide)), inb_nI hk (by decide), o_gd_t, rwp_n hk, e1f, c_isWr hg2 ((hr k hk).1 (1 - f) hg2)]
  -- what is refused
  have wI := (w8 (1 - f) hg2).1
  by_cases rfz : ¬ nI f = m 37 8 ∧ m (42 + 5 * k) 6 = m 37 7 ∧ m (46 + 5 * k) (1 - f) = 1
  · obtain ⟨r1, r2⟩ := rfz
    simp only [if_neg r1, if_pos r2, show ¬ (1 : Int32) = 0 by decide, if_false, o_b2_some, if_true]
    refine ⟨_, _, rfl, ?_⟩
    have e0 : ¬ a_st m 242 0 0 8473 k = 0 := by rw [a_st_ne (by decide), there]; decide
    have e8 : a_st m 242 0 0 (8602 + k) (1 - f) = a_st m 242 0 0 242 46 := by
      rw [a_st_ne (by omega), a_st_no (by omega), t3]
      exact wI.mp ⟨by rw [← t2]; exact r2.1, r2.2⟩
    have e9 : ¬ a_st m 242 0 0 242 47 = nI f := by rw [a_st_no (by omega), ← m8]; exact fun q => r1 q.symm
    simp only [z_bad0, o_b2_some, if_true, if_neg e0, e1f, inb_nI hg2 (by decide), o_gd_t, o_let_eq, nI_clamp (show 1 - f < 2 ^ 31 by omega), if_pos e8, if_neg e9]
    exact ⟨_, _, _, rfl, by omega, ⟨a_st_self, rfl⟩, (sc0_z (z := z) h).1, (sc0_z h).2⟩
  obtain ⟨m6, e6, f6, ⟨n1, n2, n3⟩, n36, nk, nO, nN, nB, nb⟩ := c_wl (F := F) (v := x5) hk hp hf hl hL w3 κ4 hF
  have goC : (if nI f = m 37 8 then b_Tab_writeLetter_54 F (nI p) (nI f) (nI l) x5 (42 + 5 * k) m else if (if m (42 + 5 * k) 6 = m 37 7 ∧ m (46 + 5 * k) (1 - f) = 1 then (1 : Int32) else 0) = 0 then b_Tab_writeLetter_54 F (nI p) (nI f) (nI l) x5 (42 + 5 * k) m else some (0, m)) = some (1, m6) := by
    by_cases q : nI f = m 37 8
    · rw [if_pos q, e6]
    · rw [if_neg q, if_neg (fun y => rfz ⟨q, y⟩), if_pos rfl, e6]
  simp only [goC, o_b2_some, show ¬ (1 : Int32) = 0 by decide, if_false]
  refine ⟨_, _, rfl, ?_⟩
  have rm : ∀ b j, ¬ (b = 242 ∧ j = 0) → 242 ≤ b → a_st m6 242 0 0 b j = m b j := fun b j h1 h2 => by rw [a_st_no h1, f6 b j (by unfold fCw; omega)]
  have hLm : ML (a_st m6 242 0 0) st := hL.2.fr (fun b j hb => by unfold fL at hb; rw [a_st_no (by omega), f6 b j (by unfold fCw; omega)])
  obtain ⟨z', m9, e9, zz, f9, s1, s2, s3, s4, s5, s6, s7, s8⟩ := m_wl (F := F) (z := z) (v := x5) hk hp hf hl hz hLm ((rm _ _ (by omega) (by omega)).trans w4) κ4 hF
  have e0 : ¬ a_st m6 242 0 0 8473 k = 0 := by rw [rm _ _ (by omega) (by omega), there]; decide
  have goM : (if a_st m6 242 0 0 (8602 + k) (1 - f) = a_st m6 242 0 0 242 46 then if a_st m6 242 0 0 242 47 = nI f then b_Mod_write_133 F z (nI p) (nI k) (nI f) (nI l) x5 (a_st m6 242 0 0) else some ((0, z), a_st m6 242 0 0) else b_Mod_write_133 F z (nI p) (nI k) (nI f) (nI l) x5 (a_st m6 242 0 0)) = some ((1, z'), m9) := by
    rw [rm (8602 + k) _ (by omega) (by omega), rm 242 46 (by omega) (by omega), rm 242 47 (by omega) (by omega), ← m8, t3]
    by_cases q : m (8602 + k) (1 - f) = nI t
    · rw [if_pos q]
      by_cases q2 : m 37 8 = nI f
      · rw [if_pos q2, e9]
      · exact absurd ⟨fun y => q2 y.symm, by rw [t2]; exact wI.mpr q⟩ rfz
    · rw [if_neg q, e9]
  simp only [z_bad0, o_b2_some, if_true, if_neg e0, e1f, inb_nI hg2 (by decide), o_gd_t, o_let_eq, nI_clamp (show 1 - f < 2 ^ 31 by omega), goM]
  have T : a_st m6 242 0 0 242 46 = nI t := (rm _ _ (by omega) (by omega)).trans t3
  -- where the last memory reads from
  have lowC : ∀ b j, b < 242 → m9 b j = m6 b j := fun b j hb => by
    rw [f9 b j (by unfold fMw fWz fWm fOa fSo fV; omega), a_st_no (by omega)]
  have keep : ∀ b j, ¬ fCw k b j → ¬ fMw k z p f l b j → ¬ (b = 242 ∧ j = 0) → m9 b j = m b j := fun b j h1 h2 h3 => by
    rw [f9 b j h2, a_st_no h3, f6 b j h1]
  have fr : Fr (fWI z) m m9 := fun b j hb => keep b j (by unfold fWI sc0 at hb; unfold fCw; omega) (by unfold fWI sc0 at hb; unfold fMw fWz fWm fOa fSo fV; omega) (by unfold fWI sc0 at hb; omega)
  have r1 : a_st m6 242 0 0 (8479 + k) = m (8479 + k) := funext fun j => rm _ _ (by omega) (by omega)
  have r2 : a_st m6 242 0 0 (8520 + k) = m (8520 + k) := funext fun j => rm _ _ (by omega) (by omega)
  have r3 : a_st m6 242 0 0 (8561 + k) = m (8561 + k) := funext fun j => rm _ _ (by omega) (by omega)
  rw [r1, r2, r3] at s4 s5 s6 s7
  have cg := fun j hj => wf_cg (f := f) (l := l) (v := x5) (j := j) hL.2 w5 w6 hj
  have sRe : κ = 1 ∨ κ = 2 → sR st (wBf st κ f l x5 (m (43 + 5 * k)) (m (44 + 5 * k)) (m (45 + 5 * k))) (wNf st κ f l x5 (m (43 + 5 * k)) (m (44 + 5 * k)) (m (45 + 5 * k))) = sR st (wBf st (k30 κ) f l x5 (m (8479 + k)) (m (8520 + k)) (m (8561 + k))) (wNf st (k30 κ) f l x5 (m (8479 + k)) (m (8520 + k)) (m (8561 + k))) := fun q => sR_cg hL.2 (fun j hj => ((cg j hj).2 q).2) (fun j hj => ((cg j hj).2 q).1)
  have k3 := k30_iff (κ := κ)
  have tb : bd (nI t) (-1) t := by
    unfold bd
    rw [nI_toInt (by omega)]
    omega
  have row : rowC m9 k t := by
    refine ⟨fun g hg => ?_, Or.inr ⟨?_, k30 κ, by have := k3.2.2.1 κ4; omega, ?_, s3, fun j hj => ?_, fun q j hj => ⟨?_, ?_⟩, ?_, fun g hg => ⟨?_, ?_⟩, ?_⟩⟩
    · rw [lowC _ _ (by omega)]
      by_cases q : g = f
      · rw [q, n2]; rfl
      · rw [n3 g hg q]
        split
        · exact (hr k hk).1 g hg
        · rfl
    · rw [keep _ _ (by unfold fCw; omega) (by unfold fMw fWz fWm fOa fSo fV; omega) (by omega), there]
    · rw [lowC _ _ (by omega), nk]
    · rw [lowC _ _ (by omega), nO j hj, s4 j hj]
      exact (cg j hj).1
    · rw [lowC _ _ (by omega), (nN (k3.2.1.mp q) j hj).1, (s5 (k3.2.1.mp q) j hj).1]
      exact ((cg j hj).2 (k3.2.1.mp q)).1
    · rw [lowC _ _ (by omega), (nN (k3.2.1.mp q) j hj).2, (s5 (k3.2.1.mp q) j hj).2]
      exact ((cg j hj).2 (k3.2.1.mp q)).2
    · rw [lowC (42 + 5 * k) 4 (by omega), lowC (42 + 5 * k) 5 (by omega)]
      by_cases q : κ = 1 ∨ κ = 2
      · by_cases s : sR st (wBf st κ f l x5 (m (43 + 5 * k)) (m (44 + 5 * k)) (m (45 + 5 * k))) (wNf st κ f l x5 (m (43 + 5 * k)) (m (44 + 5 * k)) (m (45 + 5 * k))) = true
        · obtain ⟨b1, b2⟩ := nb (fun y => y.2 s)
          exact Or.inl ⟨s7 q (by rw [← sRe q]; exact s), b1, b2⟩
        · obtain ⟨b1, b2⟩ := nB ⟨q, s⟩
          obtain ⟨c1, c2, c3⟩ := s6 q (by rw [← sRe q]; exact s)
          rw [rm 8474 _ (by omega) (by omega), rm 8476 _ (by omega) (by omega), T] at c2
          rw [rm 8474 _ (by omega) (by omega), rm 8477 _ (by omega) (by omega)] at c3
          refine Or.inr ⟨c1, ?_, ?_, ?_, k3.2.1.mpr q⟩
          · rw [b1, c2]
            rcases w7 with ⟨y1, y2, _⟩ | ⟨y1, y2, _, y4, _⟩
            · rw [if_pos y2, if_pos y1, t2]
            · rw [if_neg y4, if_neg (by rw [y1]; decide), y2]
          · rw [b2, c3]
            rcases w7 with ⟨y1, y2, _⟩ | ⟨y1, y2, y3, y4, _⟩
            · rw [if_pos y2, if_pos y1]
            · rw [if_neg y4, if_neg (by rw [y1]; decide), y3]
          · rw [b1]
            rcases w7 with ⟨y1, y2, _⟩ | ⟨y1, y2, y3, y4, _⟩
            · rw [if_pos y2, t2]
              exact nI_m1 (by omega)
            · rw [if_neg y4]
              exact y4
      · obtain ⟨b1, b2⟩ := nb (fun y => q y.1)
        refine Or.inl ⟨?_, b1, b2⟩
        rw [s8 q, rm 8474 _ (by omega) (by omega)]
        rcases w7 with ⟨y1, _⟩ | ⟨_, _, _, _, y5⟩
        · exact y1
        · exact absurd y5 q
    · rw [lowC _ _ (by omega), lowC _ _ (by omega), n1, t2]
      by_cases q : g = f
      · rw [q, n2, s1, T]
        exact ⟨fun _ => rfl, fun _ => ⟨rfl, rfl⟩⟩
      · have q8 : m9 (8602 + k) g = m (8602 + k) g := keep _ _ (by unfold fCw; omega) (by unfold fMw fWz fWm fOa fSo fV; omega) (by omega)
        rw [n3 g hg q, q8, ← (w8 g hg).1, t2]
        by_cases q6 : m (42 + 5 * k) 6 = nI t
        · rw [if_pos q6]
          exact ⟨fun y => ⟨q6, y.2⟩, fun y => ⟨rfl, y.2⟩⟩
        · rw [if_neg q6]
          exact ⟨fun y => absurd y.2 (by decide), fun y => absurd y.1 q6⟩
    · by_cases q : g = f
      · rw [q, s1, T]
        exact tb
      · rw [keep _ _ (by unfold fCw; omega) (by unfold fMw fWz fWm fOa fSo fV; omega) (by omega)]
        exact (w8 g hg).2
    · rw [lowC _ _ (by omega), n1, t2]
      exact tb
  have iv := h.wr hz fr (h.2.2.2.2.2.1.note (m2 := m9) hp hf hl (w := 1) (by omega) (fr _ _ (by unfold fWI sc0; omega)) (fun j => by
    rw [lowC _ _ (by omega), n36 j]) (fun p' f' l' hp' hf' hl' => by
    rw [if_neg (by omega), keep _ _ (by unfold fCw; omega) (by unfold fMw fWz fWm fOa fSo fV; omega) (by omega)]) (fun p' f' l' hp' hf' hl' => by
    by_cases q : p' = p ∧ f' = f ∧ l' = l
    · obtain ⟨rfl, rfl, rfl⟩ := q
      rw [if_pos ⟨rfl, rfl, rfl, rfl⟩, s2, T, t2]
    · rw [if_neg (fun y => q y.2), keep _ _ (by unfold fCw; omega) (by unfold fMw fWz fWm fOa fSo fV; omega) (by omega)])) t1 t2 t3 (fun q hq => by
    by_cases e : q = k
    · rw [e]; exact row
    · exact (hr q hq).fr hq (fun b j hb => keep b j (by unfold fCw; omega) (by unfold fMw fWz fWm fOa fSo fV; omega) (by omega)))
  refine ⟨_, _, _, rfl, zz, ⟨?_, rfl⟩, iv.1, iv.2⟩
  rw [f9 _ _ (by unfold fMw fWz fWm fOa fSo fV; omega), a_st_self]
