/-! CALLS: numbers that are kept, the plan -/
theorem nI_inj {a b : Nat} (ha : a < 2 ^ 31) (hb : b < 2 ^ 31) (h : nI a = nI b) : a = b := (nI_eq ha hb).mp h
theorem rw.tk {m : aM} {k t t' : Nat} (h : rw m k t) (ht : t ≤ t') (h1 : t' ≤ 10000) : rw m k t' := by
  rcases Nat.eq_or_lt_of_le ht with rfl | hlt
  · exact h
  obtain ⟨h0, h⟩ := h
  refine ⟨h0, ?_⟩
  rcases h with h | ⟨g1, κ, h2, h3, h4, h5, h6, h7, h8, h9⟩
  · exact Or.inl h
  · have no : ∀ x : Int32, bd x (-1) t → ¬ x = nI t' := fun x hx z => by
      have := hx.2
      rw [z, nI_toInt (by omega)] at this
      omega
    refine Or.inr ⟨g1, κ, h2, h3, h4, h5, h6, h7, fun f hf => ⟨⟨fun z => absurd z.1 (no _ h9), fun z => absurd z (no _ (h8 f hf).2)⟩, (h8 f hf).2.1, by have := (h8 f hf).2.2; omega⟩, h9.1, by have := h9.2; omega⟩
theorem iR.up {m m2 : aM} (h : iR m) (f : ∀ b j, (42 ≤ b ∧ b ≤ 241) ∨ (8473 ≤ b ∧ b ≤ 8641) ∨ (b = 37 ∧ j = 6) ∨ (b = 242 ∧ j = 45) → m2 b j = m b j) {t' : Nat} (ht : ∀ t, m 37 7 = nI t → t ≤ 10000 → t ≤ t') (ht1 : t' ≤ 10000) (h7 : m2 37 7 = nI t') (h7' : m2 242 46 = nI t') (h8 : m2 37 8 = m2 242 47 ∧ isb (m2 37 8) = true) (h9 : m2 37 9 = m2 242 49 ∧ bd (m2 37 9) 0 40) (h10 : m2 37 10 = m2 242 48 ∧ bd (m2 37 10) 0 1000) : iR m2 := by
  obtain ⟨s, t, a1, a2, a3, a4, a5, a6, a7, a8, a9, a10, a11, a12, a13⟩ := h
  exact ⟨s, t', a1, ht1, (f _ _ (by omega)).trans a3, (f _ _ (by omega)).trans a4, h7, h7', h8.1, h8.2, h9.1, h9.2, h10.1, h10.2, fun k hk => ((a13 k hk).fr hk (fun b j hb => f b j (by omega))).tk (ht t a5 a2) ht1⟩
theorem bd_of {x lo hi : Int32} (h : lo ≤ x ∧ x ≤ hi) : bd x lo.toInt hi.toInt := by
  have h1 := h.1
  have h2 := h.2
  rw [i_le] at h1 h2
  exact ⟨h1, h2⟩
theorem iR.tt {m : aM} (h : iR m) : ∃ t, t ≤ 10000 ∧ m 37 7 = nI t ∧ m 242 46 = nI t := by
  obtain ⟨s, t, a1, a2, a3, a4, a5, a6, _⟩ := h
  exact ⟨t, a2, a5, a6⟩
/-- one of the table's numbers is set -/
theorem Iv.nm {m m2 : aM} (h : Iv m) (f : Fr (fun b j => (b = 37 ∧ 8 ≤ j ∧ j ≤ 10) ∨ (b = 242 ∧ (j = 0 ∨ 47 ≤ j ∧ j ≤ 49))) m m2) (h8 : m2 37 8 = m2 242 47 ∧ isb (m2 37 8) = true) (h9 : m2 37 9 = m2 242 49 ∧ bd (m2 37 9) 0 40) (h10 : m2 37 10 = m2 242 48 ∧ bd (m2 37 10) 0 1000) : Iv m2 ∧ AgP m m2 := by
  obtain ⟨a1, a2, a3, a4, a5, a6, a7⟩ := h
  obtain ⟨t, t1, t2, t3⟩ := a7.tt
  refine ⟨⟨a1.fr (fun b j hb => f b j (by omega)), a2.fr (fun b j hb => f b j (by omega)), a3.fr (fun b j hb => f b j (by unfold fL at hb; omega)), a4.fr (fun b j hb => f b j (by omega)), a5.fr (fun b j hb => f b j (by omega)), a6.fr (fun b j hb => f b j (by omega)), a7.up (fun b j hb => f b j (by omega)) (t' := t) (fun t' e ht => Nat.le_of_eq (nI_inj (by omega) (by omega) (e.symm.trans t2))) t1 ((f _ _ (by simp)).trans t2) ((f _ _ (by simp)).trans t3) h8 h9 h10⟩, Or.inr (fun b j hb => f b j (by omega)), fun b j hb => f b j (by omega)⟩
theorem iR.n8 {m : aM} (h : iR m) : m 37 8 = m 242 47 ∧ isb (m 37 8) = true := by obtain ⟨s, t, a1, a2, a3, a4, a5, a6, a7, a8, a9, a10, a11, a12, a13⟩ := h; exact ⟨a7, a8⟩
theorem iR.n9 {m : aM} (h : iR m) : m 37 9 = m 242 49 ∧ bd (m 37 9) 0 40 := by obtain ⟨s, t, a1, a2, a3, a4, a5, a6, a7, a8, a9, a10, a11, a12, a13⟩ := h; exact ⟨a9, a10⟩
theorem iR.n10 {m : aM} (h : iR m) : m 37 10 = m 242 48 ∧ bd (m 37 10) 0 1000 := by obtain ⟨s, t, a1, a2, a3, a4, a5, a6, a7, a8, a9, a10, a11, a12, a13⟩ := h; exact ⟨a11, a12⟩
theorem iR.sg {m : aM} (h : iR m) : ∃ s, s ≤ 5 ∧ m 37 6 = nI s ∧ m 242 45 = nI s := by
  obtain ⟨s, t, a1, a2, a3, a4, _⟩ := h
  exact ⟨s, a1, a3, a4⟩
theorem iR.rw {m : aM} (h : iR m) : ∃ t, t ≤ 10000 ∧ m 37 7 = nI t ∧ m 242 46 = nI t ∧ ∀ k, k < 40 → rw m k t := by
  obtain ⟨s, t, a1, a2, a3, a4, a5, a6, a7, a8, a9, a10, a11, a12, a13⟩ := h
  exact ⟨t, a2, a5, a6, a13⟩
theorem z_firstI (x : Int32) (m : aM) (h : Iv m) : ZX [IAE] (f_Led_first x) (f_Mod_first x) m := by
  have r := h.2.2.2.2.2.2
  obtain ⟨y, m1, e1, v, m2, e2, co, q1, f, q2⟩ := zf_first x m r.n8.1
  have iv := h.nm (m2 := m2) (f.mono (fun b j hb => by omega)) ⟨q1, by
    rcases q2 with ⟨_, z, c1, c2⟩ | z
    · rw [z]
      obtain ⟨l, l1, rfl⟩ := rng_nat (n := 1) rfl (by decide) ⟨c1, c2⟩
      rcases (show l = 0 ∨ l = 1 by omega) with rfl | rfl <;> rfl
    · rw [z]; exact r.n8.2⟩ (by rw [f 37 9 (by omega), f 242 49 (by omega)]; exact r.n9) (by rw [f 37 10 (by omega), f 242 48 (by omega)]; exact r.n10)
  exact ⟨y, m1, e1, v, m2, e2, co, iv.1, iv.2⟩
theorem z_quietI (x : Int32) (m : aM) (h : Iv m) : ZX [IAE] (f_Led_quiet x) (f_Mod_quiet x) m := by
  have r := h.2.2.2.2.2.2
  obtain ⟨y, m1, e1, v, m2, e2, co, q1, f, q2⟩ := zf_quiet x m r.n10.1
  have iv := h.nm (m2 := m2) (f.mono (fun b j hb => by omega)) (by rw [f 37 8 (by omega), f 242 47 (by omega)]; exact r.n8) (by rw [f 37 9 (by omega), f 242 49 (by omega)]; exact r.n9) ⟨q1, by
    rcases q2 with ⟨_, z, c1, c2⟩ | z
    · rw [z]; exact bd_of ⟨c1, c2⟩
    · rw [z]; exact r.n10.2⟩
  exact ⟨y, m1, e1, v, m2, e2, co, iv.1, iv.2⟩
theorem z_fallI (x : Int32) (m : aM) (h : Iv m) : ZX [IAE] (f_Led_fall x) (f_Mod_fall x) m := by
  have r := h.2.2.2.2.2.2
  obtain ⟨y, m1, e1, v, m2, e2, co, q1, f, q2⟩ := zf_fall x m r.n9.1
  have iv := h.nm (m2 := m2) (f.mono (fun b j hb => by omega)) (by rw [f 37 8 (by omega), f 242 47 (by omega)]; exact r.n8) ⟨q1, by
    rcases q2 with ⟨_, z, c1, c2⟩ | z
    · rw [z]; exact bd_of ⟨c1, c2⟩
    · rw [z]; exact r.n9.2⟩ (by rw [f 37 10 (by omega), f 242 48 (by omega)]; exact r.n10)
  exact ⟨y, m1, e1, v, m2, e2, co, iv.1, iv.2⟩
theorem iA.up {m m2 : aM} (h : iA m) (f : ∀ b j, b = 36 ∨ (8643 ≤ b ∧ b ≤ 8691) → m2 b j = m b j) {t' : Nat} (ht : ∀ t : Nat, m 37 7 = nI t → t ≤ 10000 → t ≤ t') (ht1 : t' ≤ 10000) (h7 : m2 37 7 = nI t') : iA m2 := by
  obtain ⟨t, h0, h1, h2⟩ := h
  refine ⟨t', ht1, h7, fun p q l hp hq hl => ?_⟩
  rw [f 36 _ (by omega), f 36 _ (by omega), f (8644 + 3 * p + q) _ (by omega), f (8669 + 3 * p + q) _ (by omega)]
  refine ⟨(h2 p q l hp hq hl).1, (h2 p q l hp hq hl).2.1, fun w hw => ?_⟩
  rw [f 36 _ (by omega)]
  have z := (h2 p q l hp hq hl).2.2 w hw
  have := ht t h1 h0
  exact ⟨z.1, by have := z.2; omega⟩
theorem Iv.tk {m m2 : aM} (h : Iv m) (f : Fr (fun b j => (b = 37 ∧ j = 7) ∨ (b = 242 ∧ (j = 0 ∨ j = 46))) m m2) {t t' : Nat} (t2 : m 37 7 = nI t) (k0 : t ≤ 10000) (k1 : t ≤ t') (k2 : t' ≤ 10000) (k3 : m2 37 7 = nI t') (k4 : m2 242 46 = nI t') : Iv m2 ∧ AgP m m2 := by
  obtain ⟨a1, a2, a3, a4, a5, a6, a7⟩ := h
  have le : ∀ u, m 37 7 = nI u → u ≤ 10000 → u ≤ t' := fun u e hu => by
    have := nI_inj (by omega) (by omega) (e.symm.trans t2)
    omega
  refine ⟨⟨a1.fr (fun b j hb => f b j (by omega)), a2.fr (fun b j hb => f b j (by omega)), a3.fr (fun b j hb => f b j (by unfold fL at hb; omega)), a4.fr (fun b j hb => f b j (by omega)), a5.fr (fun b j hb => f b j (by omega)), a6.up (fun b j hb => f b j (by omega)) le k2 k3, a7.up (fun b j hb => f b j (by omega)) le k2 k3 k4 ?_ ?_ ?_⟩, Or.inr (fun b j hb => f b j (by omega)), fun b j hb => f b j (by omega)⟩
  · rw [f 37 8 (by omega), f 242 47 (by omega)]; exact a7.n8
  · rw [f 37 9 (by omega), f 242 49 (by omega)]; exact a7.n9
  · rw [f 37 10 (by omega), f 242 48 (by omega)]; exact a7.n10
theorem z_tickI (x : Int32) (m : aM) (h : Iv m) : ZX [IAE, ISE] (f_Led_tick x) (f_Mod_tick x) m := by
  obtain ⟨t, t1, t2, t3⟩ := h.2.2.2.2.2.2.tt
  unfold ZX f_Led_tick f_Mod_tick b_Mod_tick_22 b_Mod_tick_47
  simp only [z_range, z_in, o_let_eq, o_b_some]
  by_cases c : (0 : Int32) ≤ x ∧ x ≤ 1000
  · obtain ⟨n, n1, rfl⟩ := rng_nat (n := 1000) rfl (by decide) c
    simp only [if_pos c, o_t_inl, t2, nI_add]
    by_cases d : nI (t + n) ≤ 10000
    · have d' : t + n ≤ 10000 := (nI_leI (by omega) (by decide)).mp (show nI (t + n) ≤ nI 10000 from d)
      simp only [if_pos d, a_st_self]
      refine ⟨_, _, rfl, ?_⟩
      simp only [show ¬ (1 : Int32) = 0 by decide, if_false, z_bad0, o_b2_some, if_true]
      have e46 : a_st (a_st m 37 7 (nI (t + n))) 242 0 0 242 46 = nI t := by rw [a_st_no (by decide), a_st_ne (by decide)]; exact t3
      simp only [e46, nI_add, if_pos d, z_bad0, o_b2_some, if_true, a_st_self]
      have fr : Fr (fun b j => (b = 37 ∧ j = 7) ∨ (b = 242 ∧ (j = 0 ∨ j = 46))) m (a_st (a_st (a_st m 37 7 (nI (t + n))) 242 0 0) 242 46 (nI (t + n))) := ((Fr.rf.st (by simp)).st (by simp)).st (by simp)
      have iv := h.tk fr t2 t1 (show t ≤ t + n by omega) d' (by rw [a_st_ne (by decide), a_st_ne (by decide), a_st_self]) a_st_self
      exact ⟨_, _, rfl, ⟨by rw [a_st_no (by decide), a_st_self], rfl⟩, iv.1, iv.2⟩
    · simp only [if_neg d]
      refine ⟨_, _, rfl, ?_⟩
      simp only [show ¬ (1 : Int32) = 0 by decide, if_false, z_bad0, o_b2_some, if_true]
      have e46 : a_st m 242 0 0 242 46 = nI t := by rw [a_st_no (by decide)]; exact t3
      simp only [e46, nI_add, if_neg d, z_bad1 (show (2 : Int32) ≠ 0 by decide), o_b2_some, show ¬ (1 : Int32) = 0 by decide, if_false]
      exact ⟨_, _, rfl, ⟨1, rfl, a_st_self⟩, (h.f0 th_fr).1, (h.f0 th_fr).2⟩
  · simp only [if_neg c, o_t_inr]
    refine ⟨_, _, rfl, ?_⟩
    simp only [if_true, z_bad1 (show (1 : Int32) ≠ 0 by decide), o_b2_some, show ¬ (1 : Int32) = 0 by decide, if_false]
    exact ⟨_, _, rfl, ⟨0, rfl, a_st_self⟩, (h.f0 th_fr).1, (h.f0 th_fr).2⟩
