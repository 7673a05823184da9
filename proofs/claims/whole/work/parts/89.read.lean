/-! CALLS: read -/
theorem m_newAs_l {F k : Nat} (hk : k < 40) : ∀ (d i N : Nat) (m : aM), i + d = 4 → d < N → (∀ j, j < i → m 251 j = m (8520 + k) j) → ∃ m', ll_Mod_newAsIf_37 F N (nI k) 1 (nI i) m = some (0, m') ∧ (∀ j, j < 4 → m' 251 j = m (8520 + k) j) ∧ Fr (fun b j => b = 251 ∧ j < 4) m m'
  | 0, i, N, m, hd, hN, h => by
    obtain ⟨N, rfl⟩ : ∃ k, N = k + 1 := ⟨N - 1, by omega⟩
    obtain rfl : i = 4 := by omega
    exact ⟨m, rfl, h, Fr.rf⟩
  | d + 1, i, N, m, hd, hN, h => by
    obtain ⟨N, rfl⟩ : ∃ k, N = k + 1 := ⟨N - 1, by omega⟩
    obtain ⟨m', e, h1, f1⟩ := m_newAs_l (F := F) hk d (i + 1) N (a_st m 251 i (m (8520 + k) i)) (by omega) (by omega) (fun j hj => by
      rw [a_st_ne (b := 8520 + k) (by omega)]
      by_cases c : j = i
      · rw [c, a_st_self]
      · rw [a_st_no (by omega)]; exact h j (by omega))
    refine ⟨m', ?_, fun j hj => (h1 j hj).trans (by rw [a_st_ne (by omega)]), Fr.sto f1 ⟨rfl, by omega⟩⟩
    show lb_Mod_newAsIf_37 F (ll_Mod_newAsIf_37 F N) (nI k) 1 (nI i) m = _
    unfold lb_Mod_newAsIf_37
    simp only [if_neg (show ¬ (4 : Int32) ≤ nI i from nI_ge (b := 4) (by omega) (by decide)), show ¬ (1 : Int32) = 0 by decide, if_false, inb_nI (show i < 4 by omega) (by decide), inb_nI hk (by decide), o_gd_t, o_let_eq, nI_clamp (show i < 2 ^ 31 by omega), nI_clamp (show k < 2 ^ 31 by omega), nI_1]
    exact e
theorem m_newAs {F k κ : Nat} {st : lS} {m : aM} (hk : k < 40) (hL : ML m st) (h : m 8475 k = nI κ) (hκ : κ < 4) (hF : 5000 ≤ F) : ∃ m', f_Mod_newAsIf F (nI k) m = some (0, m') ∧ (∀ j, j < 4 → m' 251 j = if κ = 1 ∨ κ = 2 then m (8520 + k) j else sN st j (m (8479 + k))) ∧ Fr fSo m m' := by
  unfold f_Mod_newAsIf b_Mod_newAsIf_20 b_Mod_newAsIf_25 b_Mod_newAsIf_35
  simp only [inb_nI hk (by decide), o_gd_t, nI_clamp (show k < 2 ^ 31 by omega), h, show ¬ (1 : Int32) = 0 by decide, if_false, if_true]
  obtain ⟨m1, e1, v1, f1⟩ := m_newAs_l (F := F) hk 4 0 F m (by omega) (by omega) (fun j hj => by omega)
  obtain ⟨m2, e2, v2, f2⟩ := m_seesOf (F := F) hk hL hF
  have e3 : ll_Mod_newAsIf_37 F F (nI k) 0 0 m2 = some (0, m2) := by
    obtain ⟨N, hN⟩ : ∃ k, F = k + 1 := ⟨F - 1, by omega⟩
    show ll_Mod_newAsIf_37 F F (nI k) 0 (nI 0) m2 = _
    have : ∀ G, ll_Mod_newAsIf_37 G F (nI k) 0 (nI 0) m2 = some (0, m2) := fun G => by
      rw [hN]
      rfl
    exact this F
  have e1' : ll_Mod_newAsIf_37 F F (nI k) 1 0 m = some (0, m1) := e1
  rcases k4 hκ with rfl | rfl | rfl | rfl
  · simp only [show nI 0 = 0 from rfl, show ¬ (0 : Int32) = 1 by decide, show ¬ (0 : Int32) = 2 by decide, if_false, e2, o_b2_some, e3]
    exact ⟨_, rfl, fun j hj => (v2 j hj).2.2.trans (by rw [if_neg (by omega)]), f2⟩
  · simp only [show nI 1 = 1 from rfl, if_true, e1']
    exact ⟨_, rfl, fun j hj => (v1 j hj).trans (by simp), f1.mono (fun b j hb => by unfold fSo; omega)⟩
  · simp only [show nI 2 = 2 from rfl, show ¬ (2 : Int32) = 1 by decide, if_false, if_true, e1']
    exact ⟨_, rfl, fun j hj => (v1 j hj).trans (by simp), f1.mono (fun b j hb => by unfold fSo; omega)⟩
  · simp only [show nI 3 = 3 from rfl, show ¬ (3 : Int32) = 1 by decide, show ¬ (3 : Int32) = 2 by decide, if_false, e2, o_b2_some, e3]
    exact ⟨_, rfl, fun j hj => (v2 j hj).2.2.trans (by rw [if_neg (by omega)]), f2⟩
theorem m_oldAs2_l {F k : Nat} (hk : k < 40) : ∀ (d i N : Nat) (m : aM), i + d = 4 → d < N → (∀ j, j < i → m 250 j = m (8520 + k) j ∧ m 249 j = m (8561 + k) j) → ∃ m', ll_Mod_oldAsIf_2 F N (nI k) (nI i) m = (if m' 8475 k = 2 then o_b2 (f_Mod_puts F m') fun _ m3 => b_Mod_oldAsIf_55 F (nI k) m3 else b_Mod_oldAsIf_55 F (nI k) m') ∧ (∀ j, j < 4 → m' 250 j = m (8520 + k) j ∧ m' 249 j = m (8561 + k) j) ∧ Fr (fun b j => (b = 249 ∨ b = 250) ∧ j < 4) m m'
  | 0, i, N, m, hd, hN, h => by
    obtain ⟨N, rfl⟩ : ∃ k, N = k + 1 := ⟨N - 1, by omega⟩
    obtain rfl : i = 4 := by omega
    refine ⟨m, ?_, h, Fr.rf⟩
    show lb_Mod_oldAsIf_2 F (ll_Mod_oldAsIf_2 F N) (nI k) (nI 4) m = _
    unfold lb_Mod_oldAsIf_2
    rw [if_pos (show (4 : Int32) ≤ nI 4 by decide), inb_nI hk (by decide), o_gd_t, nI_clamp (by omega)]
  | d + 1, i, N, m, hd, hN, h => by
    obtain ⟨N, rfl⟩ : ∃ k, N = k + 1 := ⟨N - 1, by omega⟩
    obtain ⟨m', e, h1, f1⟩ := m_oldAs2_l (F := F) hk d (i + 1) N (a_st (a_st m 250 i (m (8520 + k) i)) 249 i (m (8561 + k) i)) (by omega) (by omega) (fun j hj => by
      rw [a_st_ne (b := 8520 + k) (by omega), a_st_ne (b := 8520 + k) (by omega), a_st_ne (b := 8561 + k) (by omega), a_st_ne (b := 8561 + k) (by omega)]
      by_cases c : j = i
      · rw [c, a_st_self, a_st_ne (b := 250) (by decide), a_st_self]; exact ⟨rfl, rfl⟩
      · rw [a_st_no (by omega), a_st_no (by omega), a_st_no (by omega), a_st_no (by omega)]; exact h j (by omega))
    refine ⟨m', ?_, fun j hj => ?_, Fr.sto (Fr.sto f1 ⟨Or.inl rfl, by omega⟩) ⟨Or.inr rfl, by omega⟩⟩
    · rw [← e]
      show lb_Mod_oldAsIf_2 F (ll_Mod_oldAsIf_2 F N) (nI k) (nI i) m = _
      unfold lb_Mod_oldAsIf_2
      simp only [if_neg (show ¬ (4 : Int32) ≤ nI i from nI_ge (b := 4) (by omega) (by decide)), inb_nI (show i < 4 by omega) (by decide), inb_nI hk (by decide), o_gd_t, o_let_eq, nI_clamp (show i < 2 ^ 31 by omega), nI_clamp (show k < 2 ^ 31 by omega), nI_1, a_st_ne (show 8561 + k ≠ 250 by omega)]
    · obtain ⟨q1, q2⟩ := h1 j hj
      rw [a_st_ne (b := 8520 + k) (by omega), a_st_ne (b := 8520 + k) (by omega)] at q1
      rw [a_st_ne (b := 8561 + k) (by omega), a_st_ne (b := 8561 + k) (by omega)] at q2
      exact ⟨q1, q2⟩
theorem m_oldAs57_l {F k : Nat} (hk : k < 40) : ∀ (d i N : Nat) (m : aM), i + d = 4 → d < N → ¬ m 8475 k = 2 → (∀ j, j < i → m 252 j = m (8479 + k) j) → ∃ m', ll_Mod_oldAsIf_57 F N (nI k) (nI i) m = some (0, m') ∧ (∀ j, j < 4 → m' 252 j = m (8479 + k) j) ∧ Fr (fun b j => b = 252 ∧ j < 4) m m'
  | 0, i, N, m, hd, hN, hn, h => by
    obtain ⟨N, rfl⟩ : ∃ k, N = k + 1 := ⟨N - 1, by omega⟩
    obtain rfl : i = 4 := by omega
    exact ⟨m, rfl, h, Fr.rf⟩
  | d + 1, i, N, m, hd, hN, hn, h => by
    obtain ⟨N, rfl⟩ : ∃ k, N = k + 1 := ⟨N - 1, by omega⟩
    obtain ⟨m', e, h1, f1⟩ := m_oldAs57_l (F := F) hk d (i + 1) N (a_st m 252 i (m (8479 + k) i)) (by omega) (by omega) (by rw [a_st_ne (by decide)]; exact hn) (fun j hj => by
      rw [a_st_ne (b := 8479 + k) (by omega)]
      by_cases c : j = i
      · rw [c, a_st_self]
      · rw [a_st_no (by omega)]; exact h j (by omega))
    refine ⟨m', ?_, fun j hj => (h1 j hj).trans (by rw [a_st_ne (by omega)]), Fr.sto f1 ⟨rfl, by omega⟩⟩
    show lb_Mod_oldAsIf_57 F (ll_Mod_oldAsIf_57 F N) (nI k) (nI i) m = _
    unfold lb_Mod_oldAsIf_57
    simp only [if_neg (show ¬ (4 : Int32) ≤ nI i from nI_ge (b := 4) (by omega) (by decide)), inb_nI (show i < 4 by omega) (by decide), inb_nI hk (by decide), o_gd_t, o_let_eq, nI_clamp (show i < 2 ^ 31 by omega), nI_clamp (show k < 2 ^ 31 by omega), if_neg hn, nI_1]
    exact e
def fOa : Nat → Nat → Prop := fun b j => fV b j ∨ ((b = 249 ∨ b = 250 ∨ b = 252) ∧ j < 4)
theorem m_oldAs {F k κ : Nat} {st : lS} {m : aM} (hk : k < 40) (hL : ML m st) (h : m 8475 k = nI κ) (hκ : κ < 4) (hF : 5000 ≤ F) : ∃ m', f_Mod_oldAsIf F (nI k) m = some (0, m') ∧ (∀ j, j < 4 → m' 252 j = if κ = 2 then sO st j (m (8561 + k)) (m (8520 + k)) else m (8479 + k) j) ∧ Fr fOa m m' := by
  unfold f_Mod_oldAsIf
  obtain ⟨m1, e1, v1, f1⟩ := m_oldAs2_l (F := F) hk 4 0 F m (by omega) (by omega) (fun j hj => by omega)
  have q1 : m1 8475 k = nI κ := by rw [f1 _ _ (by omega), h]
  rw [show ll_Mod_oldAsIf_2 F F (nI k) 0 m = _ from e1, q1]
  unfold b_Mod_oldAsIf_55
  by_cases c : κ = 2
  · subst c
    obtain ⟨m2, e2, v2, f2⟩ := m_puts (F := F) (hL.fr (m' := m1) (fun b j hb => f1 b j (by unfold fL at hb; omega))) hF
    have e3 : ll_Mod_oldAsIf_57 F F (nI k) 0 m2 = some (0, m2) := by
      obtain ⟨N, hN⟩ : ∃ k, F = k + 1 := ⟨F - 1, by omega⟩
      have : ∀ G, ll_Mod_oldAsIf_57 G F (nI k) 0 m2 = some (0, m2) := fun G => by
        rw [hN]
        show lb_Mod_oldAsIf_57 G (ll_Mod_oldAsIf_57 G N) (nI k) 0 m2 = _
        unfold lb_Mod_oldAsIf_57
        rw [if_neg (show ¬ (4 : Int32) ≤ 0 by decide), inb_nI hk (by decide), o_gd_t, nI_clamp (by omega), if_pos (by rw [f2 _ _ (by unfold fV; omega), q1]; rfl)]
      exact this F
    rw [if_pos (show nI 2 = 2 from rfl), e2, o_b2_some, e3]
    refine ⟨_, rfl, fun j hj => ?_, (f1.mono (fun b j hb => by unfold fOa; omega)).tr (f2.mono (fun b j hb => hb.elim Or.inl (fun z => Or.inr (by omega))))⟩
    rw [v2 j hj, if_pos rfl]
    exact sO_cg hL hj (fun q hq => (v1 q hq).2) (fun q hq => (v1 q hq).1)
  · have n2 : ¬ nI κ = 2 := fun z => c (nI_inj (by omega) (by decide) (show nI κ = nI 2 from z))
    obtain ⟨m2, e2, v2, f2⟩ := m_oldAs57_l (F := F) hk 4 0 F m1 (by omega) (by omega) (by rw [q1]; exact n2) (fun j hj => by omega)
    rw [if_neg n2, show ll_Mod_oldAsIf_57 F F (nI k) 0 m1 = _ from e2]
    refine ⟨_, rfl, fun j hj => ?_, (f1.mono (fun b j hb => by unfold fOa; omega)).tr (f2.mono (fun b j hb => by unfold fOa; omega))⟩
    rw [v2 j hj, if_neg c, f1 _ _ (by omega)]
/-- a note of who asked -/
theorem iA.note {m m2 : aM} (h : iA m) {p f l w : Nat} (hp : p < 8) (hf : f < 2) (hl : l < 4) (hw : w < 2) (h7 : m2 37 7 = m 37 7) (e36 : ∀ j, m2 36 j = if j = 16 * p + 8 * f + 2 * l + w then m 37 7 else m 36 j) (er : ∀ p' f' l', p' < 8 → f' < 2 → l' < 4 → m2 (8644 + 3 * p' + f') l' = if w = 0 ∧ p' = p ∧ f' = f ∧ l' = l then m 37 7 else m (8644 + 3 * p' + f') l') (ew : ∀ p' f' l', p' < 8 → f' < 2 → l' < 4 → m2 (8669 + 3 * p' + f') l' = if w = 1 ∧ p' = p ∧ f' = f ∧ l' = l then m 37 7 else m (8669 + 3 * p' + f') l') : iA m2 := by
  obtain ⟨t, h0, h1, h2⟩ := h
  refine ⟨t, h0, h7.trans h1, fun p' f' l' hp' hf' hl' => ?_⟩
  obtain ⟨a1, a2, a3⟩ := h2 p' f' l' hp' hf' hl'
  have bt : bd (m 37 7) (-1) t := by
    rw [h1]
    unfold bd
    rw [nI_toInt (by omega)]
    omega
  refine ⟨?_, ?_, fun w' hw' => ?_⟩
  · rw [e36, er p' f' l' hp' hf' hl']
    by_cases c : w = 0 ∧ p' = p ∧ f' = f ∧ l' = l
    · rw [if_pos c, if_pos (by omega)]
    · rw [if_neg c, if_neg (by omega), a1]
  · rw [e36, ew p' f' l' hp' hf' hl']
    by_cases c : w = 1 ∧ p' = p ∧ f' = f ∧ l' = l
    · rw [if_pos c, if_pos (by omega)]
    · rw [if_neg c, if_neg (by omega), a2]
  · rw [e36]
    split
    · exact bt
    · exact a3 w' hw'
def fAk : Nat → Nat → Prop := fun b j => sc0 b j ∨ b = 36 ∨ (8643 ≤ b ∧ b ≤ 8691)
theorem Iv.ak {m m2 : aM} (h : Iv m) (f : Fr fAk m m2) (ha : iA m2) : Iv m2 ∧ AgP m m2 := by
  obtain ⟨a1, a2, a3, a4, a5, a6, a7⟩ := h
  exact ⟨⟨a1.fr (fun b j hb => f b j (by unfold fAk sc0; omega)), a2.fr (fun b j hb => f b j (by unfold fAk sc0; omega)), a3.fr (fun b j hb => f b j (by unfold fL at hb; unfold fAk sc0; omega)), a4.fr (fun b j hb => f b j (by unfold fAk sc0; omega)), a5.fr (fun b j hb => f b j (by unfold fAk sc0; omega)), ha, a7.fr (fun b j hb => f b j (by unfold fAk sc0; omega))⟩, Or.inr (fun b j hb => f b j (by unfold fAk sc0; omega)), fun b j hb => f b j (by unfold fAk sc0; omega)⟩
theorem z_readI (x1 x2 x3 x4 : Int32) (F : Nat) (m : aM) (hF : 5000 ≤ F) (h : Iv m) : ZX [IOB, IAE, NSE] (f_Led_read F x1 x2 x3 x4) (f_Mod_read F x1 x2 x3 x4) m := by
  obtain ⟨t, t1, t2, t3, hr⟩ := h.2.2.2.2.2.2.rw
  obtain ⟨st, hL⟩ := h.2.2.1
  unfold ZX f_Led_read f_Mod_read b_Mod_read_19 b_Mod_read_56 b_Mod_read_61 b_Mod_read_83
  simp only [z_checkKey, m_isKey, o_let_eq, o_b_some, z_checkAsked, z_in]
  by_cases c : (0 : Int32) ≤ x2 ∧ x2 ≤ 39
  case neg =>
    simp only [if_neg c, o_t_inr]
    refine ⟨_, _, rfl, ?_⟩
    simp only [if_true, z_bad1 (show (1 : Int32) ≠ 0 by decide), o_b2_some, show ¬ (1 : Int32) = 0 by decide, if_false]
    exact ⟨_, _, rfl, ⟨0, rfl, a_st_self⟩, (h.f0 th_fr).1, (h.f0 th_fr).2⟩
  obtain ⟨k, k39, rfl⟩ := rng_nat (n := 39) rfl (by decide) c
  have hk : k < 40 := by omega
  have th := (hr k hk).th
  simp only [if_pos c, o_t_inl, o_b_some, show ¬ (1 : Int32) = 0 by decide, if_false]
  by_cases d : ((0 : Int32) ≤ x1 ∧ x1 ≤ 7) ∧ (0 ≤ x3 ∧ x3 ≤ 1) ∧ (0 ≤ x4 ∧ x4 ≤ 3)
  case neg =>
    simp only [if_neg d, o_t_inr]
    refine ⟨_, _, rfl, ?_⟩
    have e : Iv (a_st m 242 0 2) ∧ AgP m (a_st m 242 0 2) := h.f0 th_fr
    by_cases d1 : (0 : Int32) ≤ x1 ∧ x1 ≤ 7
    · by_cases d2 : (0 : Int32) ≤ x3 ∧ x3 ≤ 1
      · have d3 : ¬ ((0 : Int32) ≤ x4 ∧ x4 ≤ 3) := fun z => d ⟨d1, d2, z⟩
        simp only [if_pos d1, if_pos d2, if_neg d3, if_true, z_bad0, z_bad1 (show (2 : Int32) ≠ 0 by decide), o_b2_some, show ¬ (1 : Int32) = 0 by decide, if_false]
        exact ⟨_, _, rfl, ⟨1, rfl, a_st_self⟩, e.1, e.2⟩
      · simp only [if_pos d1, if_neg d2, if_true, z_bad0, z_bad1 (show (2 : Int32) ≠ 0 by decide), o_b2_some, show ¬ (1 : Int32) = 0 by decide, if_false]
        exact ⟨_, _, rfl, ⟨1, rfl, a_st_self⟩, e.1, e.2⟩
    · simp only [if_neg d1, if_true, z_bad0, z_bad1 (show (2 : Int32) ≠ 0 by decide), o_b2_some, show ¬ (1 : Int32) = 0 by decide, if_false]
      exact ⟨_, _, rfl, ⟨1, rfl, a_st_self⟩, e.1, e.2⟩
  rw [if_pos d]
  obtain ⟨d1, d2, d3⟩ := d
  simp only [if_pos d1, if_pos d2, if_pos d3, and_self, o_t_inl, if_true, show ¬ (1 : Int32) = 0 by decide, if_false, z_checkThere hk, inb_nI hk (by decide), o_gd_t, nI_clamp (show k < 2 ^ 31 by omega)]
  obtain ⟨p, p7, rfl⟩ := rng_nat (n := 7) rfl (by decide) d1
  obtain ⟨f, f1, rfl⟩ := rng_nat (n := 1) rfl (by decide) d2
  obtain ⟨l, l3, rfl⟩ := rng_nat (n := 3) rfl (by decide) d3
  have hp : p < 8 := by omega
  have hf : f < 2 := by omega
  have hl : l < 4 := by omega
  by_cases g : m (42 + 5 * k) 3 = -1
  · simp only [if_pos g, o_t_inr]
    refine ⟨_, _, rfl, ?_⟩
    have e0 : a_st m 242 0 0 8473 k = 0 := by rw [a_st_ne (by decide)]; exact th.mp g
    simp only [z_bad0, o_b2_some, if_true, if_pos e0, z_bad1 (show (3 : Int32) ≠ 0 by decide), show ¬ (1 : Int32) = 0 by decide, if_false]
    exact ⟨_, _, rfl, ⟨2, rfl, a_st_self⟩, (h.f0 th_fr).1, (h.f0 th_fr).2⟩
  obtain ⟨κ, κ4, w3, w4, w5, w6, w7, w8, w9⟩ := (hr k hk).kind g
  simp only [if_neg g, o_t_inl]
  unfold f_Tab_readLetter f_Ask_note
  have g0 : ¬ nI l < 0 := by match l, hl with | 0, _ => decide | 1, _ => decide | 2, _ => decide | 3, _ => decide
  have g4 : nI l < 4 := by match l, hl with | 0, _ => decide | 1, _ => decide | 2, _ => decide | 3, _ => decide
  have ib : inb (nI (16 * p + 8 * f + 2 * l + 0)) 128 = true := inb_nI (by omega) (by decide)
  simp only [c_there hk, if_neg g, o_b_some, show ¬ (1 : Int32) = 0 by decide, if_false, if_neg g0, if_pos g4, z_slot (w := 0) hp hf hl (Or.inl ⟨rfl, rfl⟩), ib, o_gd_t, nI_clamp (show 16 * p + 8 * f + 2 * l + 0 < 2 ^ 31 by omega), o_let_eq, o_b2_some, inb_nI hk (by decide), inb_nI hl (by decide), rwp_n hk, nI_clamp (show l < 2 ^ 31 by omega), nI_clamp (show p < 2 ^ 31 by omega), nI_clamp (show f < 2 ^ 31 by omega)]
  generalize hi : 16 * p + 8 * f + 2 * l + 0 = i
  have hL3 : LC (a_st m 36 i (m 37 7)) st := hL.fr (fun b j hb => by rw [a_st_ne (by unfold fL at hb; omega)])
  have w33 : a_st m 36 i (m 37 7) (42 + 5 * k) 3 = nI κ := by rw [a_st_ne (by omega), w3]
  -- what the class and the reference leave, put together
  have fin : ∀ m6 m9 : aM, Fr (fun b j => b = 10 ∨ ((b = 39 ∨ b = 40) ∧ j < 4)) (a_st m 36 i (m 37 7)) m6 → Fr (fun b j => fSo b j ∨ fOa b j) (a_st (a_st m6 242 0 0) (8644 + 3 * p + f) l (a_st m6 242 0 0 242 46)) m9 → Iv m9 ∧ AgP m m9 ∧ m9 242 0 = 0 := fun m6 m9 f6 f9 => by
    have x46 : a_st m6 242 0 0 242 46 = m 37 7 := by rw [a_st_no (by omega), f6 _ _ (by omega), a_st_ne (by decide), t3, t2]
    rw [x46] at f9
    have to : ∀ b j, ¬ (b = 10 ∨ ((b = 39 ∨ b = 40) ∧ j < 4)) → ¬ (fSo b j ∨ fOa b j) → ¬ (b = 242 ∧ j = 0) → m9 b j = a_st (a_st m 36 i (m 37 7)) (8644 + 3 * p + f) l (m 37 7) b j := fun b j z1 z2 z3 => by
      rw [f9 b j z2]
      by_cases z : b = 8644 + 3 * p + f ∧ j = l
      · obtain ⟨rfl, rfl⟩ := z
        rw [a_st_self, a_st_self]
      · rw [a_st_no z, a_st_no z, a_st_no z3, f6 b j z1]
    have fr : Fr fAk m m9 := fun b j hb => by
      unfold fAk sc0 at hb
      rw [to b j (by omega) (by unfold fSo fOa fV; omega) (by omega), a_st_no (by omega), a_st_no (by omega)]
    have iv := h.ak fr (h.2.2.2.2.2.1.note (m2 := m9) hp hf hl (w := 0) (by omega) (fr _ _ (by unfold fAk sc0; omega)) (fun j => by
      rw [to _ _ (by omega) (by unfold fSo fOa fV; omega) (by omega), a_st_no (by omega), hi]
      by_cases z : j = i
      · rw [if_pos z, z, a_st_self]
      · rw [if_neg z, a_st_no (by omega)]) (fun p' f' l' hp' hf' hl' => by
      rw [to _ _ (by omega) (by unfold fSo fOa fV; omega) (by omega)]
      by_cases z : p' = p ∧ f' = f ∧ l' = l
      · obtain ⟨rfl, rfl, rfl⟩ := z
        rw [if_pos ⟨rfl, rfl, rfl, rfl⟩, a_st_self]
      · rw [if_neg (by omega), a_st_no (by omega), a_st_no (by omega)]) (fun p' f' l' hp' hf' hl' => by
      rw [to _ _ (by omega) (by unfold fSo fOa fV; omega) (by omega), if_neg (by omega), a_st_no (by omega), a_st_no (by omega)]))
    refine ⟨iv.1, iv.2, ?_⟩
    rw [f9 _ _ (by unfold fSo fOa fV; omega), a_st_no (by omega), a_st_self]
  have lm : ∀ m6 : aM, Fr (fun b j => b = 10 ∨ ((b = 39 ∨ b = 40) ∧ j < 4)) (a_st m 36 i (m 37 7)) m6 → ∀ v : Int32, ML (a_st (a_st m6 242 0 0) (8644 + 3 * p + f) l v) st ∧ (∀ b j, 8475 ≤ b → b ≤ 8601 → a_st (a_st m6 242 0 0) (8644 + 3 * p + f) l v b j = m b j) ∧ ¬ a_st m6 242 0 0 8473 k = 0 := fun m6 f6 v => by
    refine ⟨hL.2.fr (fun b j hb => ?_), fun b j b1 b2 => ?_, fun z => ?_⟩
    · unfold fL at hb
      rw [a_st_ne (by omega), a_st_no (by omega), f6 _ _ (by omega), a_st_ne (by omega)]
    · rw [a_st_ne (by omega), a_st_ne (by omega), f6 _ _ (by omega), a_st_ne (by omega)]
    · rw [a_st_ne (by decide), f6 _ _ (by omega), a_st_ne (by decide)] at z
      exact g (th.mpr z)
  have hff : f = 0 ∨ f = 1 := by omega
  rcases hff with rfl | rfl
  · obtain ⟨m6, e6, v6, f6⟩ := c_oldAs (F := F) (a := 39) hk (by omega) hL3 w33 κ4 hF
    simp only [show nI 0 = 0 from rfl, if_true, e6, o_b2_some]
    refine ⟨_, _, rfl, ?_⟩
    have f6' := f6.mono (P' := fun b j => b = 10 ∨ ((b = 39 ∨ b = 40) ∧ j < 4)) (fun b j hb => by omega)
    obtain ⟨l1, l2, l3'⟩ := lm m6 f6' (a_st m6 242 0 0 242 46)
    obtain ⟨m9, e9, v9, f9⟩ := m_oldAs (F := F) hk l1 ((l2 _ _ (by omega) (by omega)).trans w4) κ4 hF
    obtain ⟨i1, i2, i3⟩ := fin m6 m9 f6' (f9.mono (fun b j hb => Or.inr hb))
    simp only [z_bad0, o_b2_some, if_true, if_neg l3', inb_nI hp (by decide), show inb 0 2 = true by decide, o_gd_t, show (0 : Int32).toNatClampNeg = 0 from rfl, e9, b_Mod_read_124, inb_nI hl (by decide), nI_clamp (show l < 2 ^ 31 by omega)]
    refine ⟨_, _, rfl, ⟨i3, ?_⟩, i1, i2⟩
    rw [v6 l hl, v9 l hl]
    by_cases q : κ = 2
    · rw [if_pos q, if_pos q]
      refine sO_cg hL.2 hl (fun j hj => ?_) (fun j hj => ?_)
      · rw [l2 _ _ (by omega) (by omega), a_st_ne (by omega)]; exact (w6 (Or.inr q) j hj).2
      · rw [l2 _ _ (by omega) (by omega), a_st_ne (by omega)]; exact (w6 (Or.inr q) j hj).1
    · rw [if_neg q, if_neg q, l2 _ _ (by omega) (by omega), a_st_ne (by omega)]; exact w5 l hl
  · obtain ⟨m6, e6, v6, f6⟩ := c_newAs (F := F) hk hL3 w33 κ4 hF
    simp only [show nI 1 = 1 from rfl, show ¬ (1 : Int32) = 0 by decide, if_false, e6, o_b2_some]
    refine ⟨_, _, rfl, ?_⟩
    have f6' := f6.mono (P' := fun b j => b = 10 ∨ ((b = 39 ∨ b = 40) ∧ j < 4)) (fun b j hb => by omega)
    obtain ⟨l1, l2, l3'⟩ := lm m6 f6' (a_st m6 242 0 0 242 46)
    obtain ⟨m9, e9, v9, f9⟩ := m_newAs (F := F) hk l1 ((l2 _ _ (by omega) (by omega)).trans w4) κ4 hF
    obtain ⟨i1, i2, i3⟩ := fin m6 m9 f6' (f9.mono (fun b j hb => Or.inl hb))
    simp only [z_bad0, o_b2_some, if_true, if_neg l3', inb_nI hp (by decide), show inb 1 2 = true by decide, o_gd_t, show (1 : Int32).toNatClampNeg = 1 from rfl, e9, b_Mod_read_124, inb_nI hl (by decide), nI_clamp (show l < 2 ^ 31 by omega), show ¬ (1 : Int32) = 0 by decide, if_false]
    refine ⟨_, _, rfl, ⟨i3, ?_⟩, i1, i2⟩
    rw [v6 l hl, v9 l hl]
    by_cases q : κ = 1 ∨ κ = 2
    · rw [if_pos q, if_pos q, l2 _ _ (by omega) (by omega), a_st_ne (by omega)]; exact (w6 q l hl).1
    · rw [if_neg q, if_neg q]
      refine sN_cg hL.2 hl (fun j hj => ?_)
      rw [l2 _ _ (by omega) (by omega), a_st_ne (by omega)]; exact w5 j hj
