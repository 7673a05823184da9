/-! CALLS: back, delete -/
def Dn (m0 m : aM) (i : Nat) : Prop := (∀ k, k < 40 → (k < i ∧ ¬ m0 (42 + 5 * k) 3 = -1 → m (42 + 5 * k) 3 = 0 ∧ m (42 + 5 * k) 4 = -1 ∧ m (42 + 5 * k) 5 = -1) ∧ (¬ (k < i ∧ ¬ m0 (42 + 5 * k) 3 = -1) → ∀ j, m (42 + 5 * k) j = m0 (42 + 5 * k) j)) ∧ ∀ b j, ¬ (b % 5 = 2 ∧ 42 ≤ b ∧ b ≤ 237 ∧ 3 ≤ j ∧ j ≤ 5) → m b j = m0 b j
theorem c_dropNew_l {F : Nat} {m0 : aM} : ∀ (d k N : Nat) (m : aM), k + d = 40 → d < N → Dn m0 m k → ∃ m', ll_Tab_dropNewForm_2 F N (nI k) m = some (0, m') ∧ Dn m0 m' 40
  | 0, k, N, m, hd, hN, h => by
    obtain ⟨N, rfl⟩ : ∃ k, N = k + 1 := ⟨N - 1, by omega⟩
    obtain rfl : k = 40 := by omega
    exact ⟨m, rfl, h⟩
  | d + 1, k, N, m, hd, hN, h => by
    obtain ⟨N, rfl⟩ : ∃ k, N = k + 1 := ⟨N - 1, by omega⟩
    have e0 : ll_Tab_dropNewForm_2 F (N + 1) (nI k) m = lb_Tab_dropNewForm_2 F (ll_Tab_dropNewForm_2 F N) (nI k) m := rfl
    have hk : ∀ j, m (42 + 5 * k) j = m0 (42 + 5 * k) j := (h.1 k (by omega)).2 (fun z => by omega)
    rw [e0]
    unfold lb_Tab_dropNewForm_2 b_Tab_dropNewForm_32 f_Row_heal
    simp only [if_neg (c40 (show k < 40 by omega)), inb_nI (show k < 40 by omega) (by decide), o_gd_t, rwp_n (show k < 40 by omega), nI_1, hk, o_let_eq, o_b2_some]
    by_cases c : m0 (42 + 5 * k) 3 = -1
    · rw [if_pos c]
      refine c_dropNew_l d (k + 1) N m (by omega) (by omega) ⟨fun q hq => ⟨fun z => (h.1 q hq).1 ⟨?_, z.2⟩, fun z => (h.1 q hq).2 (fun w => z ⟨by omega, w.2⟩)⟩, h.2⟩
      rcases Nat.lt_or_ge q k with w | w
      · exact w
      · have : q = k := by omega
        rw [this] at z
        exact absurd c z.2
    · rw [if_neg c]
      refine c_dropNew_l d (k + 1) N _ (by omega) (by omega) ⟨fun q hq => ?_, fun b j hb => ?_⟩
      · by_cases e : q = k
        · subst e
          refine ⟨fun _ => ⟨?_, ?_, a_st_self⟩, fun z => absurd ⟨by omega, c⟩ z⟩
          · rw [a_st_no (by omega), a_st_no (by omega), a_st_self]
          · rw [a_st_no (by omega), a_st_self]
        · have s : ∀ j, a_st (a_st (a_st m (42 + 5 * k) 3 0) (42 + 5 * k) 4 (-1)) (42 + 5 * k) 5 (-1) (42 + 5 * q) j = m (42 + 5 * q) j := fun j => by rw [a_st_ne (by omega), a_st_ne (by omega), a_st_ne (by omega)]
          rw [s 3, s 4, s 5]
          refine ⟨fun z => (h.1 q hq).1 ⟨by omega, z.2⟩, fun z j => ?_⟩
          rw [s j]
          exact (h.1 q hq).2 (fun w => z ⟨by omega, w.2⟩) j
      · rw [a_st_no (by omega), a_st_no (by omega), a_st_no (by omega)]
        exact h.2 b j hb
theorem m_back2_l {F : Nat} : ∀ (d k N : Nat) (m : aM), k + d = 40 → d < N → m 242 45 = 2 → (∀ j, j < k → m 8475 j = 0 ∧ m 8474 j = 0) → ∃ m', ll_Mod_back_24 F N (nI k) m = b_Mod_back_58 F m' ∧ (∀ j, j < 40 → m' 8475 j = 0 ∧ m' 8474 j = 0) ∧ Fr (fun b j => (b = 8475 ∨ b = 8474) ∧ j < 40) m m'
  | 0, k, N, m, hd, hN, h5, h => by
    obtain ⟨N, rfl⟩ : ∃ k, N = k + 1 := ⟨N - 1, by omega⟩
    obtain rfl : k = 40 := by omega
    exact ⟨m, rfl, h, Fr.rf⟩
  | d + 1, k, N, m, hd, hN, h5, h => by
    obtain ⟨N, rfl⟩ : ∃ k, N = k + 1 := ⟨N - 1, by omega⟩
    obtain ⟨m', e, h1, f1⟩ := m_back2_l (F := F) d (k + 1) N (a_st (a_st m 8475 k 0) 8474 k 0) (by omega) (by omega) (by rw [a_st_ne (by decide), a_st_ne (by decide)]; exact h5) (fun j hj => by
      by_cases c : j = k
      · rw [c, a_st_self, a_st_ne (by decide), a_st_self]; exact ⟨rfl, rfl⟩
      · rw [a_st_ne (by decide), a_st_no (by omega), a_st_no (by omega), a_st_ne (by decide)]; exact h j (by omega))
    refine ⟨m', ?_, h1, Fr.sto (Fr.sto f1 ⟨by omega, by omega⟩) ⟨by omega, by omega⟩⟩
    show lb_Mod_back_24 F (ll_Mod_back_24 F N) (nI k) m = _
    unfold lb_Mod_back_24
    simp only [if_neg (c40 (show k < 40 by omega)), h5, if_true, inb_nI (show k < 40 by omega) (by decide), o_gd_t, o_let_eq, nI_clamp (show k < 2 ^ 31 by omega), nI_1]
    exact e
theorem z_backI (F : Nat) (m : aM) (hF : 5000 ≤ F) (h : Iv m) : ZN (f_Led_back F) (f_Mod_back F) m := by
  obtain ⟨t, t1, t2, t3, hr⟩ := h.2.2.2.2.2.2.rw
  obtain ⟨s, s1, s2, s3⟩ := h.2.2.2.2.2.2.sg
  have n9 := h.2.2.2.2.2.2.n9
  have th5 : ∀ mc : aM, a_st mc 242 0 0 242 45 = mc 242 45 := fun mc => a_st_no (by decide)
  unfold ZN f_Led_back f_Tab_goBack
  rw [s2]
  rcases Nat.eq_zero_or_pos s with s0 | s0
  · subst s0
    rw [if_pos (by decide), o_b2_some]
    refine ⟨_, _, rfl, a_st m 242 0 0, ?_, (h.f0 th_fr).1, (h.f0 th_fr).2⟩
    unfold f_Mod_back
    rw [o_let_eq, th5, s3, if_pos (show nI 0 = 0 from rfl)]
  rw [if_neg (show ¬ nI s < 1 from nI_nlt (b := 1) s0 (by omega))]
  rcases Nat.lt_or_ge s 5 with s5 | s5
  case inr =>
    obtain rfl : s = 5 := by omega
    rw [if_neg (by decide), o_b2_some]
    refine ⟨_, _, rfl, a_st m 242 0 0, ?_, (h.f0 th_fr).1, (h.f0 th_fr).2⟩
    unfold f_Mod_back
    rw [o_let_eq, th5, s3, if_neg (by decide), if_pos (show nI 5 = 5 from rfl)]
  rw [if_pos (show nI s < 5 from nI_lt (b := 5) s5 (by decide)), o_let_eq, a_st_self, show nI s - 1 = nI (s - 1) from pk_sub (b := 1) s0]
  by_cases c : s = 2
  · subst c
    rw [if_pos (show nI (2 - 1) = 1 from rfl)]
    obtain ⟨mc, ec, k1, k2⟩ := c_dropNew_l (F := F) (m0 := a_st m 37 6 (nI (2 - 1))) 40 0 F (a_st m 37 6 (nI (2 - 1))) (by omega) (by omega) ⟨fun k hk => ⟨fun z => by omega, fun _ _ => rfl⟩, fun _ _ _ => rfl⟩
    unfold f_Tab_dropNewForm
    rw [show ll_Tab_dropNewForm_2 F F 0 (a_st m 37 6 (nI (2 - 1))) = _ from ec, o_b2_some, o_b2_some]
    obtain ⟨m4, e4, q4, f4⟩ := m_back2_l (F := F) 40 0 F (a_st mc 242 0 0) (by omega) (by omega) (by rw [th5, k2 _ _ (by omega), a_st_ne (by decide)]; exact s3) (fun j hj => by omega)
    have to : ∀ b j, ¬ (b = 37 ∧ j = 6) → ¬ (b = 242 ∧ (j = 0 ∨ j = 45)) → ¬ ((b = 8475 ∨ b = 8474) ∧ j < 40) → ¬ (b % 5 = 2 ∧ 42 ≤ b ∧ b ≤ 237 ∧ 3 ≤ j ∧ j ≤ 5) → a_st m4 242 45 (m4 242 45 - 1) b j = m b j := fun b j z1 z2 z3 z4 => by
      rw [a_st_no (by omega), f4 b j z3, a_st_no (by omega), k2 b j z4, a_st_no z1]
    have mrow : ∀ k j, k < 40 → a_st m4 242 45 (m4 242 45 - 1) (42 + 5 * k) j = mc (42 + 5 * k) j := fun k j hk => by rw [a_st_ne (by omega), f4 _ _ (by omega), a_st_ne (by omega)]
    have m0r : ∀ k j, k < 40 → a_st m 37 6 (nI (2 - 1)) (42 + 5 * k) j = m (42 + 5 * k) j := fun k j hk => by rw [a_st_ne (by omega)]
    have rows : ∀ k, k < 40 → rw (a_st m4 242 45 (m4 242 45 - 1)) k t := fun k hk => by
      obtain ⟨h0, h1⟩ := hr k hk
      refine ⟨fun q hq => by rw [to _ _ (by omega) (by omega) (by omega) (by omega)]; exact h0 q hq, ?_⟩
      rcases h1 with ⟨h1, h2⟩ | ⟨h1, κ, h2, h3, h4, h5, h6, h7, h8, h9⟩
      · refine Or.inl ⟨?_, ?_⟩
        · rw [to _ _ (by omega) (by omega) (by omega) (by omega)]; exact h1
        · rw [mrow k 3 hk, (k1 k hk).2 (fun z => z.2 (by rw [m0r k 3 hk]; exact h2)) 3, m0r k 3 hk]; exact h2
      · have n1 : ¬ a_st m 37 6 (nI (2 - 1)) (42 + 5 * k) 3 = -1 := by
          rw [m0r k 3 hk, h3]
          intro z
          have := congrArg Int32.toInt z
          rw [nI_toInt (by omega)] at this
          have e : (-1 : Int32).toInt = -1 := rfl
          omega
        obtain ⟨d3, d4, d5⟩ := (k1 k hk).1 ⟨hk, n1⟩
        refine Or.inr ⟨?_, 0, by omega, ?_, ?_, fun j hj => ?_, fun z => by omega, Or.inl ⟨?_, ?_, ?_⟩, fun q hq => ?_, ?_⟩
        · rw [to _ _ (by omega) (by omega) (by omega) (by omega)]; exact h1
        · rw [mrow k 3 hk, d3]; rfl
        · rw [a_st_ne (by omega), (q4 k hk).1]; rfl
        · rw [to _ _ (by omega) (by omega) (by omega) (by omega), to (8479 + k) _ (by omega) (by omega) (by omega) (by omega)]; exact h5 j hj
        · rw [a_st_ne (by omega), (q4 k hk).2]
        · rw [mrow k 4 hk, d4]
        · rw [mrow k 5 hk, d5]
        · rw [to (42 + 5 * k) 6 (by omega) (by omega) (by omega) (by omega), to (46 + 5 * k) q (by omega) (by omega) (by omega) (by omega), to (8602 + k) q (by omega) (by omega) (by omega) (by omega)]; exact h8 q hq
        · rw [to (42 + 5 * k) 6 (by omega) (by omega) (by omega) (by omega)]; exact h9
    have m45 : m4 242 45 = nI 2 := by rw [f4 _ _ (by omega), th5, k2 _ _ (by omega), a_st_ne (by decide)]; exact s3
    have iv := h.rw (m2 := a_st m4 242 45 (m4 242 45 - 1)) (fun b j hb => by unfold fG sc0 at hb; exact to b j (by omega) (by omega) (by omega) (by omega)) (s := 1) (t := t) (by omega) (by rw [a_st_ne (by decide), f4 _ _ (by omega), a_st_ne (by decide), k2 _ _ (by omega), a_st_self]) (by rw [a_st_self, m45]; rfl) t1 t2 t3 (by rw [to 37 9 (by omega) (by omega) (by omega) (by omega), to 242 49 (by omega) (by omega) (by omega) (by omega)]; exact n9) rows
    refine ⟨_, _, rfl, _, ?_, iv.1, iv.2⟩
    unfold f_Mod_back
    rw [o_let_eq, th5, k2 242 45 (by omega), a_st_ne (by decide), s3, if_neg (by decide), if_neg (by decide)]
    exact e4
  · rw [if_neg (show ¬ nI (s - 1) = 1 from fun z => by have := nI_inj (b := 1) (by omega) (by decide) z; omega), o_b2_some]
    have to : ∀ b j, ¬ (b = 37 ∧ j = 6) → ¬ (b = 242 ∧ (j = 0 ∨ j = 45)) → a_st (a_st (a_st m 37 6 (nI (s - 1))) 242 0 0) 242 45 (nI (s - 1)) b j = m b j := fun b j z1 z2 => by rw [a_st_no (by omega), a_st_no (by omega), a_st_no z1]
    have iv := h.rw (m2 := a_st (a_st (a_st m 37 6 (nI (s - 1))) 242 0 0) 242 45 (nI (s - 1))) (fun b j hb => by unfold fG sc0 at hb; exact to b j (by omega) (by omega)) (s := s - 1) (t := t) (by omega) (by rw [a_st_ne (by decide), a_st_ne (by decide), a_st_self]) a_st_self t1 t2 t3 (by rw [to 37 9 (by omega) (by omega), to 242 49 (by omega) (by omega)]; exact n9) (fun k hk => (hr k hk).fr hk (fun b j hb => to b j (by omega) (by omega)))
    refine ⟨_, _, rfl, _, ?_, iv.1, iv.2⟩
    have m45 : a_st (a_st m 37 6 (nI (s - 1))) 242 0 0 242 45 = nI s := by rw [th5, a_st_ne (by decide)]; exact s3
    have ns : ∀ q, q < 10 → s ≠ q → ¬ nI s = nI q := fun q hq hn z => hn (nI_inj (by omega) (by omega) z)
    unfold f_Mod_back
    rw [o_let_eq, m45, if_neg (show ¬ nI s = 0 from ns 0 (by omega) (by omega)), if_neg (show ¬ nI s = 5 from ns 5 (by omega) (by omega))]
    obtain ⟨N, rfl⟩ : ∃ N, F = N + 1 := ⟨F - 1, by omega⟩
    show lb_Mod_back_24 (N + 1) (ll_Mod_back_24 (N + 1) N) 0 _ = _
    unfold lb_Mod_back_24 b_Mod_back_58
    rw [if_neg (by decide), m45, if_neg (show ¬ nI s = 2 from ns 2 (by omega) c), o_let_eq, show nI s - 1 = nI (s - 1) from pk_sub (b := 1) s0]
theorem z_checkKey (x : Int32) (m : aM) : f_Led_checkKey x m = some (if 0 ≤ x ∧ x ≤ 39 then .inl 0 else .inr IOB) := by
  unfold f_Led_checkKey
  have e39 : (39 : Int32).toInt = 39 := rfl
  have e40 : (40 : Int32).toInt = 40 := rfl
  have e0 : (0 : Int32).toInt = 0 := rfl
  by_cases h1 : x < 0
  · rw [if_pos h1, if_neg (fun h => by rw [i_le] at h; rw [i_lt] at h1; have := h.1; omega)]
  · rw [if_neg h1]
    by_cases h2 : x < 40
    · rw [if_pos h2, if_pos ⟨by rw [i_le]; rw [i_lt] at h1; omega, by rw [i_le]; rw [i_lt] at h2; omega⟩]
    · rw [if_neg h2, if_neg (fun h => h2 (by have := h.2; rw [i_le] at this; rw [i_lt]; omega))]
theorem m_isKey (x : Int32) (m : aM) : f_Mod_isKey x m = some (if 0 ≤ x ∧ x ≤ 39 then 1 else 0) := by
  unfold f_Mod_isKey
  rw [z_in, o_b_some]
  by_cases c : (0 : Int32) ≤ x ∧ x ≤ 39
  · rw [if_pos c]; rfl
  · rw [if_neg c]; rfl
theorem c_there {k : Nat} {m : aM} (hk : k < 40) : f_Tab_isThere (nI k) m = some (if m (42 + 5 * k) 3 = -1 then 0 else 1) := by
  unfold f_Tab_isThere
  rw [if_neg (nI_pos (by omega)), if_neg (c40 hk), inb_nI hk (by decide), o_gd_t, rwp_n hk]
  by_cases c : m (42 + 5 * k) 3 = -1
  · rw [if_pos c, if_pos c]
  · rw [if_neg c, if_neg c]
theorem rw.th1 {m : aM} {k t : Nat} (h : rw m k t) : m 8473 k = 0 ∨ m 8473 k = 1 := by
  rcases h.2 with ⟨h1, _⟩ | ⟨h1, _⟩
  · exact Or.inl h1
  · exact Or.inr h1
abbrev rowC (m : aM) (k t : Nat) : Prop := rw m k t
/-- rows change, the rest stays -/
theorem Iv.ro {m m2 : aM} (h : Iv m) (f : Fr fG m m2) (h6 : m2 37 6 = m 37 6) (h45 : m2 242 45 = m 242 45) (h9 : m2 37 9 = m2 242 49 ∧ bd (m2 37 9) 0 40) {t : Nat} (t1 : t ≤ 10000) (t2 : m 37 7 = nI t) (t3 : m 242 46 = nI t) (hr : ∀ k, k < 40 → rowC m2 k t) : Iv m2 ∧ AgP m m2 := by
  obtain ⟨s, s1, s2, s3⟩ := h.2.2.2.2.2.2.sg
  exact h.rw f s1 (h6.trans s2) (h45.trans s3) t1 t2 t3 h9 hr
theorem z_deleteI (x : Int32) (m : aM) (h : Iv m) : ZX [IOB] (f_Led_delete x) (f_Mod_delete x) m := by
  obtain ⟨t, t1, t2, t3, hr⟩ := h.2.2.2.2.2.2.rw
  have n9 := h.2.2.2.2.2.2.n9
  unfold ZX f_Led_delete f_Mod_delete b_Mod_delete_19 f_Tab_dropRow
  simp only [z_checkKey, m_isKey, o_let_eq, o_b_some]
  by_cases c : (0 : Int32) ≤ x ∧ x ≤ 39
  case neg =>
    simp only [if_neg c, o_t_inr]
    refine ⟨_, _, rfl, ?_⟩
    simp only [if_true, z_bad1 (show (1 : Int32) ≠ 0 by decide), o_b2_some, show ¬ (1 : Int32) = 0 by decide, if_false]
    exact ⟨_, _, rfl, ⟨0, rfl, a_st_self⟩, (h.f0 th_fr).1, (h.f0 th_fr).2⟩
  obtain ⟨k, k39, rfl⟩ := rng_nat (n := 39) rfl (by decide) c
  have hk : k < 40 := by omega
  have th := (hr k hk).th
  simp only [if_pos c, o_t_inl, c_there hk, o_b_some, show ¬ (1 : Int32) = 0 by decide, if_false, z_bad0]
  have ext : ∀ mc : aM, (∀ b j, ¬ (b = 42 + 5 * k ∧ j = 3) → mc b j = m b j) → mc (42 + 5 * k) 3 = -1 → Iv (a_st (a_st mc 242 0 0) 8473 k 0) ∧ AgP m (a_st (a_st mc 242 0 0) 8473 k 0) := fun mc h1 h2 => by
    have to : ∀ b j, ¬ (b = 42 + 5 * k ∧ j = 3) → ¬ (b = 242 ∧ j = 0) → ¬ (b = 8473 ∧ j = k) → a_st (a_st mc 242 0 0) 8473 k 0 b j = m b j := fun b j z1 z2 z3 => by rw [a_st_no z3, a_st_no z2, h1 b j z1]
    refine h.ro (fun b j hb => by unfold fG sc0 at hb; exact to b j (by omega) (by omega) (by omega)) (to _ _ (by omega) (by omega) (by omega)) (to _ _ (by omega) (by omega) (by omega)) (by rw [to 37 9 (by omega) (by omega) (by omega), to 242 49 (by omega) (by omega) (by omega)]; exact n9) t1 t2 t3 (fun q hq => ?_)
    by_cases e : q = k
    · subst e
      refine ⟨fun f hf => by rw [to _ _ (by omega) (by omega) (by omega)]; exact (hr q hq).1 f hf, Or.inl ⟨a_st_self, ?_⟩⟩
      rw [a_st_ne (by omega), a_st_ne (by omega)]; exact h2
    · exact (hr q hq).fr hq (fun b j hb => to b j (by omega) (by omega) (by omega))
  by_cases d : m (42 + 5 * k) 3 = -1
  · simp only [if_pos d, if_true, o_b2_some, show isb 0 = true from rfl, o_gd_t]
    refine ⟨_, _, rfl, ?_⟩
    have e0 : a_st m 242 0 0 8473 k = 0 := by rw [a_st_ne (by decide)]; exact th.mp d
    simp only [z_bad0, o_b2_some, if_true, inb_nI hk (by decide), o_gd_t, nI_clamp (show k < 2 ^ 31 by omega), e0, show isb 0 = true from rfl]
    have iv := ext m (fun _ _ _ => rfl) d
    exact ⟨_, _, rfl, ⟨by rw [a_st_ne (by decide), a_st_self], rfl⟩, iv.1, iv.2⟩
  · simp only [if_neg d, show ¬ (1 : Int32) = 0 by decide, if_false, inb_nI hk (by decide), o_gd_t, rwp_n hk, o_b2_some, show isb 1 = true from rfl]
    refine ⟨_, _, rfl, ?_⟩
    have e1 : a_st (a_st m (42 + 5 * k) 3 (-1)) 242 0 0 8473 k = 1 := by
      rw [a_st_ne (by decide), a_st_ne (by omega)]
      rcases (hr k hk).th1 with z | z
      · exact absurd (th.mpr z) d
      · exact z
    simp only [z_bad0, o_b2_some, if_true, nI_clamp (show k < 2 ^ 31 by omega), e1, show isb 1 = true from rfl, o_gd_t]
    have iv := ext (a_st m (42 + 5 * k) 3 (-1)) (fun b j hb => a_st_no hb) a_st_self
    exact ⟨_, _, rfl, ⟨by rw [a_st_ne (by decide), a_st_self], rfl⟩, iv.1, iv.2⟩
